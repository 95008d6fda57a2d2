abbrev rm_X9_beginTrial : Room := { frames := 0, cells := 0, slots := 0, locals := 0 }
set_option maxHeartbeats 40000000 in
set_option maxRecDepth 100000 in
theorem c_X9_beginTrial (l : Launch) (D : va_G) (cy : Nat → Nat) (aM : Nat → Nat) (imM : Mem) (inM : MemL) (nM' : MemL) (hE : f_X9_beginTrial imM inM = some nM') : CV l yX9_beginTrial wsX9_beginTrial rm_X9_beginTrial D cy [.ref (aM 0)] (W_M cy aM imM inM) 0 0 (W_M cy aM imM nM') := by
  refine CQ_of (cc := cX9_beginTrial) (maxL := 2) (ret := none) (by decide) rfl (Nat.le_of_ble_eq_true rfl) (fun p e s m args below meth c A ls hx hb hr hml hlocks hnm hown hts hA hK hN hP hD hS hl => ?_)
  have hown : s.vm.findClass RX9 = some m.cls := hown
  have hl : lv_has ls 2 [(0, .ref (aM 0))] := hl
  have f7 : (Cond.fieldLink RX9 7 "IcePlantModel" "w" "[J").before args s = true := hts _ (mC qf_X9_7)
  have f16 : (Cond.fieldLink RX9 16 "IcePlantModel" "trial" "[J").before args s = true := hts _ (mC qf_X9_16)
  have iX9 : ∀ w ∈ wsX90, w ∈ wsX9_beginTrial := fun w h => mC (iA_X9 w h)
  have h2 : ∀ (n : Nat), ∀ (x1 : Int32) (nM : MemL) (H : Heap) (locs : List Loc) (ls : Array Slot), f_X9_beginTrial_L2 imM n x1 nM = some nM' → va_P D vwCl (W_M cy aM imM nM) H → va_D A (W_M cy aM imM nM) → va_S A s.heap H locs → lv_has ls 2 [(0, .ref (aM 0)), (1, .int x1)] → W p l e rm_X9_beginTrial s m args below meth c H locs 0 0 (MQ below (QV D cy (W_M cy aM imM nM') A) args s 0 0 A) (F0 m 2 ls []) := by
    intro n
    induction n with
    | zero => intro x1 nM H locs ls hE; exact absurd hE (fun h9 => nomatch h9)
    | succ n ih =>
      intro x1 nM H locs ls hE hP hD hS hl
      replace hE : ((if (1888 : Int32) ≤ x1 then some nM else gi x1 1888 (gi x1 1888 (lt' (wrL nM 2 (vp_updL (nM 2) x1.toNatClampNeg (nM 0 x1.toNatClampNeg))) fun nM_3 => lt' (x1 + (1 : Int32)) fun x1_5 => (f_X9_beginTrial_L2 imM n) x1_5 nM_3)))) = some nM' := hE
      refine lv_iload_n hx hb dX9_beginTrial_2 rfl (lv_at hl 1 rfl) ?_
      refine lv_sipush (v := 1888) hx hb dX9_beginTrial_3 (by decide) ?_
      refine lv_icmp_ge (tgt := 27) hx hb dX9_beginTrial_6 (by decide) (fun c_1 => ?_) (fun c_1 => ?_)
      · replace hE := it_t hE c_1
        have hE := Option.some.inj hE
        exact ev hx hb hr hlocks hK hP hD hS (by rw [hE]) dX9_beginTrial_27
      · replace hE := it_f hE c_1
        refine lv_aload_n hx hb dX9_beginTrial_9 rfl (lv_at hl 0 rfl) ?_
        refine va_get (D := D) (ci := 9) (v := .ref (aM 3)) (C := RX9) (T := TX9) (N := 13) hx hb hts iX9 hown hK hP 0 rfl rfl 2 (by decide) f16 (fun _ h9 => h9) rfl dX9_beginTrial_10 ?_
        refine lv_iload_n hx hb dX9_beginTrial_13 rfl (lv_at hl 1 rfl) ?_
        refine lv_aload_n hx hb dX9_beginTrial_14 rfl (lv_at hl 0 rfl) ?_
        refine va_get (D := D) (ci := 9) (v := .ref (aM 1)) (C := RX9) (T := TX9) (N := 13) hx hb hts iX9 hown hK hP 0 rfl rfl 0 (by decide) f7 (fun _ h9 => h9) rfl dX9_beginTrial_15 ?_
        refine lv_iload_n hx hb dX9_beginTrial_18 rfl (lv_at hl 1 rfl) ?_
        obtain ⟨g_2, hE⟩ := gi_el hE
        refine va_lald hx hb hK hP 1 1 rfl rfl g_2 dX9_beginTrial_19 ?_
        obtain ⟨g_4, hE⟩ := gi_el hE
        obtain ⟨nM_3, e_nM_3, hE⟩ := lt_el hE
        refine s_la (ws1 := (W_M cy aM imM nM_3)) hx hb hK hP hD hS 3 rfl g_4 (by rw [e_nM_3]; rfl) dX9_beginTrial_20 (fun H locs hP hD hS => ?_)
        obtain ⟨x1_5, e_x1_5, hE⟩ := lt_el hE
        refine lv_iinc (v := x1_5) (lv' := [(1, .int x1_5), (0, .ref (aM 0))]) hx hb dX9_beginTrial_21 hl (k := 1) rfl (by rw [e_x1_5]; rfl) (by decide) rfl (fun ls hl => ?_)
        refine lv_goto (tgt := 2) hx hb dX9_beginTrial_24 (by decide) ?_
        exact ih x1_5 nM_3 _ _ _ hE hP hD hS (lv_sub hl [1, 0] rfl)
  unfold f_X9_beginTrial at hE
  refine lv_iconst (v := 0) hx hb dX9_beginTrial_0 (by decide) ?_
  refine lv_istore_n (lv' := [(1, .int (0 : Int32)), (0, .ref (aM 0))]) hx hb dX9_beginTrial_1 rfl hl (by decide) rfl (fun ls hl => ?_)
  exact h2 fuel (0 : Int32) inM _ _ _ hE hP hD hS (lv_sub hl [1, 0] rfl)
abbrev rm_X9_endTrial : Room := { frames := 0, cells := 0, slots := 0, locals := 0 }
set_option maxHeartbeats 40000000 in
set_option maxRecDepth 100000 in
theorem c_X9_endTrial (l : Launch) (D : va_G) (cy : Nat → Nat) (aM : Nat → Nat) (imM : Mem) (inM : MemL) (nM' : MemL) (hE : f_X9_endTrial imM inM = some nM') : CV l yX9_endTrial wsX9_endTrial rm_X9_endTrial D cy [.ref (aM 0)] (W_M cy aM imM inM) 0 0 (W_M cy aM imM nM') := by
  refine CQ_of (cc := cX9_endTrial) (maxL := 2) (ret := none) (by decide) rfl (Nat.le_of_ble_eq_true rfl) (fun p e s m args below meth c A ls hx hb hr hml hlocks hnm hown hts hA hK hN hP hD hS hl => ?_)
  have hown : s.vm.findClass RX9 = some m.cls := hown
  have hl : lv_has ls 2 [(0, .ref (aM 0))] := hl
  have f7 : (Cond.fieldLink RX9 7 "IcePlantModel" "w" "[J").before args s = true := hts _ (mC qf_X9_7)
  have f16 : (Cond.fieldLink RX9 16 "IcePlantModel" "trial" "[J").before args s = true := hts _ (mC qf_X9_16)
  have iX9 : ∀ w ∈ wsX90, w ∈ wsX9_endTrial := fun w h => mC (iA_X9 w h)
  have h2 : ∀ (n : Nat), ∀ (x1 : Int32) (nM : MemL) (H : Heap) (locs : List Loc) (ls : Array Slot), f_X9_endTrial_L2 imM n x1 nM = some nM' → va_P D vwCl (W_M cy aM imM nM) H → va_D A (W_M cy aM imM nM) → va_S A s.heap H locs → lv_has ls 2 [(0, .ref (aM 0)), (1, .int x1)] → W p l e rm_X9_endTrial s m args below meth c H locs 0 0 (MQ below (QV D cy (W_M cy aM imM nM') A) args s 0 0 A) (F0 m 2 ls []) := by
    intro n
    induction n with
    | zero => intro x1 nM H locs ls hE; exact absurd hE (fun h9 => nomatch h9)
    | succ n ih =>
      intro x1 nM H locs ls hE hP hD hS hl
      replace hE : ((if (1888 : Int32) ≤ x1 then some nM else gi x1 1888 (gi x1 1888 (lt' (wrL nM 0 (vp_updL (nM 0) x1.toNatClampNeg (nM 2 x1.toNatClampNeg))) fun nM_3 => lt' (x1 + (1 : Int32)) fun x1_5 => (f_X9_endTrial_L2 imM n) x1_5 nM_3)))) = some nM' := hE
      refine lv_iload_n hx hb dX9_endTrial_2 rfl (lv_at hl 1 rfl) ?_
      refine lv_sipush (v := 1888) hx hb dX9_endTrial_3 (by decide) ?_
      refine lv_icmp_ge (tgt := 27) hx hb dX9_endTrial_6 (by decide) (fun c_1 => ?_) (fun c_1 => ?_)
      · replace hE := it_t hE c_1
        have hE := Option.some.inj hE
        exact ev hx hb hr hlocks hK hP hD hS (by rw [hE]) dX9_endTrial_27
      · replace hE := it_f hE c_1
        refine lv_aload_n hx hb dX9_endTrial_9 rfl (lv_at hl 0 rfl) ?_
        refine va_get (D := D) (ci := 9) (v := .ref (aM 1)) (C := RX9) (T := TX9) (N := 13) hx hb hts iX9 hown hK hP 0 rfl rfl 0 (by decide) f7 (fun _ h9 => h9) rfl dX9_endTrial_10 ?_
        refine lv_iload_n hx hb dX9_endTrial_13 rfl (lv_at hl 1 rfl) ?_
        refine lv_aload_n hx hb dX9_endTrial_14 rfl (lv_at hl 0 rfl) ?_
        refine va_get (D := D) (ci := 9) (v := .ref (aM 3)) (C := RX9) (T := TX9) (N := 13) hx hb hts iX9 hown hK hP 0 rfl rfl 2 (by decide) f16 (fun _ h9 => h9) rfl dX9_endTrial_15 ?_
        refine lv_iload_n hx hb dX9_endTrial_18 rfl (lv_at hl 1 rfl) ?_
        obtain ⟨g_2, hE⟩ := gi_el hE
        refine va_lald hx hb hK hP 3 1 rfl rfl g_2 dX9_endTrial_19 ?_
        obtain ⟨g_4, hE⟩ := gi_el hE
        obtain ⟨nM_3, e_nM_3, hE⟩ := lt_el hE
        refine s_la (ws1 := (W_M cy aM imM nM_3)) hx hb hK hP hD hS 1 rfl g_4 (by rw [e_nM_3]; rfl) dX9_endTrial_20 (fun H locs hP hD hS => ?_)
        obtain ⟨x1_5, e_x1_5, hE⟩ := lt_el hE
        refine lv_iinc (v := x1_5) (lv' := [(1, .int x1_5), (0, .ref (aM 0))]) hx hb dX9_endTrial_21 hl (k := 1) rfl (by rw [e_x1_5]; rfl) (by decide) rfl (fun ls hl => ?_)
        refine lv_goto (tgt := 2) hx hb dX9_endTrial_24 (by decide) ?_
        exact ih x1_5 nM_3 _ _ _ hE hP hD hS (lv_sub hl [1, 0] rfl)
  unfold f_X9_endTrial at hE
  refine lv_iconst (v := 0) hx hb dX9_endTrial_0 (by decide) ?_
  refine lv_istore_n (lv' := [(1, .int (0 : Int32)), (0, .ref (aM 0))]) hx hb dX9_endTrial_1 rfl hl (by decide) rfl (fun ls hl => ?_)
  exact h2 fuel (0 : Int32) inM _ _ _ hE hP hD hS (lv_sub hl [1, 0] rfl)
abbrev rm_X9_massAfter : Room := { frames := 7, cells := 0, slots := 0, locals := 170 }
set_option maxHeartbeats 40000000 in
set_option maxRecDepth 100000 in
theorem c_X9_massAfter (l : Launch) (D : va_G) (cy : Nat → Nat) (aM : Nat → Nat) (x1 : Int32) (imM : Mem) (inM : MemL) (r' : Int32) (mM' : Mem) (nM' : MemL) (hE : f_X9_massAfter x1 imM inM = some (r', mM', nM')) : CI l yX9_massAfter wsX9_massAfter rm_X9_massAfter D cy [.ref (aM 0), .int x1] (W_M cy aM imM inM) 0 0 r' (W_M cy aM mM' nM') := by
  refine CQ_of (cc := cX9_massAfter) (maxL := 4) (ret := (some .int)) (by decide) rfl (Nat.le_of_ble_eq_true rfl) (fun p e s m args below meth c A ls hx hb hr hml hlocks hnm hown hts hA hK hN hP hD hS hl => ?_)
  have hown : s.vm.findClass RX9 = some m.cls := hown
  have hl : lv_has ls 4 [(0, .ref (aM 0)), (1, .int x1)] := hl
  have hC : CallFix p m c cX9_massAfter 4 s args wsX9_massAfter RX9 := ⟨hx, hb, hml, hown, hts⟩
  have f43 : (Cond.fieldLink RX9 43 "IcePlantModel" "thrown" "I").before args s = true := hts _ (mC qf_X9_43)
  have iX9 : ∀ w ∈ wsX90, w ∈ wsX9_massAfter := fun w h => mC (iA_X9 w h)
  have k181 : (Cond.constantLong RX9 181 (48)).before args s = true := hts _ (mC qk_X9_181)
  unfold f_X9_massAfter at hE
  refine lv_aload_n hx hb dX9_massAfter_0 rfl (lv_at hl 0 rfl) ?_
  refine lv_iconst (v := 0) hx hb dX9_massAfter_1 (by decide) ?_
  obtain ⟨mM_1, e_mM_1, hE⟩ := lt_el hE
  refine s_pf (own := RX9) (C := RX9) (T := TX9) (N := 13) (ci := 9) (ws1 := (W_M cy aM mM_1 inM)) hx hb hts iX9 tyX9 tyX9_ok nmX9 hown hK hP hD hS 0 rfl rfl 8 (by decide) f43 rfl rfl rfl rfl (Nat.le_of_ble_eq_true rfl) (by rw [e_mM_1]; rfl) dX9_massAfter_2 (fun H locs hP hD hS => ?_)
  refine lv_iload_n hx hb dX9_massAfter_5 rfl (lv_at hl 1 rfl) ?_
  refine lv_i2l hx hb dX9_massAfter_6 rfl ?_
  refine lv_lconst (v := 0) hx hb dX9_massAfter_7 (by decide) ?_
  refine lv_ldc2 hx hb hown k181 dX9_massAfter_8 ?_
  obtain ⟨r_2, hc_3, hE⟩ := bd1_el hE
  refine ki (X := []) (Y := (W_M cy aM mM_1 inM)) (ws1 := (W_M cy aM mM_1 inM)) (rS (X := []) (Y := (W_M cy aM mM_1 inM)) (As := [.long (x1.toInt64), .long (0 : Int64), .long (48 : Int64)]) (rest := []) hC (c_X9_in l D cy (x1.toInt64) (0 : Int64) (48 : Int64) r_2 hc_3) (cwS 3 hts gX9_massAfter_X9_in rfl rfl rfl cd_X9_in ⟨Nat.le_of_ble_eq_true rfl, Nat.le_of_ble_eq_true rfl⟩) hK hN hP hD hS hA rfl rfl hl.1 rfl (lv_room (Nat.le_of_ble_eq_true rfl)) dX9_massAfter_11 ⟨Nat.le_of_ble_eq_true rfl, Nat.le_of_ble_eq_true rfl⟩) hP hD hS hA rfl rfl rfl (fun H locs hP hD hS => ?_)
  refine lv_if_ne (tgt := 23) hx hb dX9_massAfter_14 (by decide) (fun c_4 => ?_) (fun c_4 => ?_)
  · replace hE := it_f hE c_4
    refine lv_aload_n hx hb dX9_massAfter_23 rfl (lv_at hl 0 rfl) ?_
    obtain ⟨nM_5, hc_6, hE⟩ := bd1_el hE
    refine kv (X := []) (Y := []) (ws1 := (W_M cy aM mM_1 nM_5)) (rV (X := []) (Y := []) (As := []) (rest := []) hC (c_X9_beginTrial l D cy aM mM_1 inM nM_5 hc_6) (cwV 0 hts gX9_massAfter_X9_beginTrial rfl rfl rfl cd_X9_beginTrial ⟨Nat.le_of_ble_eq_true rfl, Nat.le_of_ble_eq_true rfl⟩) hK hN hP hD hS hA rfl 0 9 rfl rfl rfl hl.1 rfl (lv_room (Nat.le_of_ble_eq_true rfl)) dX9_massAfter_24 ⟨Nat.le_of_ble_eq_true rfl, Nat.le_of_ble_eq_true rfl⟩) hP hD hS hA rfl rfl rfl (fun H locs hP hD hS => ?_)
    refine lv_aload_n hx hb dX9_massAfter_27 rfl (lv_at hl 0 rfl) ?_
    refine lv_iload_n hx hb dX9_massAfter_28 rfl (lv_at hl 1 rfl) ?_
    obtain ⟨r_7, mM_8, nM_9, hc_10, hE⟩ := bd3_el hE
    refine ki (X := []) (Y := []) (ws1 := (W_M cy aM mM_8 nM_9)) (rV (X := []) (Y := []) (As := [.int x1]) (rest := []) hC (c_X9_doPass l D cy aM x1 mM_1 nM_5 r_7 mM_8 nM_9 hc_10) (cwV 1 hts gX9_massAfter_X9_doPass rfl rfl rfl cd_X9_doPass ⟨Nat.le_of_ble_eq_true rfl, Nat.le_of_ble_eq_true rfl⟩) hK hN hP hD hS hA rfl 0 9 rfl rfl rfl hl.1 rfl (lv_room (Nat.le_of_ble_eq_true rfl)) dX9_massAfter_29 ⟨Nat.le_of_ble_eq_true rfl, Nat.le_of_ble_eq_true rfl⟩) hP hD hS hA rfl rfl rfl (fun H locs hP hD hS => ?_)
    refine lv_istore_n (lv' := [(2, .int r_7), (0, .ref (aM 0)), (1, .int x1)]) hx hb dX9_massAfter_32 rfl hl (by decide) rfl (fun ls hl => ?_)
    refine lv_aload_n hx hb dX9_massAfter_33 rfl (lv_at hl 1 rfl) ?_
    obtain ⟨r_11, hc_12, hE⟩ := bd1_el hE
    refine kl (X := []) (Y := []) (ws1 := (W_M cy aM mM_8 nM_9)) (rV (X := []) (Y := []) (As := []) (rest := []) hC (c_X9_stored l D cy aM mM_8 nM_9 r_11 hc_12) (cwV 0 hts gX9_massAfter_X9_stored rfl rfl rfl cd_X9_stored ⟨Nat.le_of_ble_eq_true rfl, Nat.le_of_ble_eq_true rfl⟩) hK hN hP hD hS hA rfl 0 9 rfl rfl rfl hl.1 rfl (lv_room (Nat.le_of_ble_eq_true rfl)) dX9_massAfter_34 ⟨Nat.le_of_ble_eq_true rfl, Nat.le_of_ble_eq_true rfl⟩) hP hD hS hA rfl rfl rfl (fun H locs hP hD hS => ?_)
    refine lv_l2i hx hb dX9_massAfter_37 rfl ?_
    obtain ⟨x3_13, e_x3_13, hE⟩ := lt_el hE
    refine s_nm e_x3_13 ?_
    refine lv_istore_n (lv' := [(3, .int x3_13), (2, .int r_7), (0, .ref (aM 0)), (1, .int x1)]) hx hb dX9_massAfter_38 rfl hl (by decide) rfl (fun ls hl => ?_)
    refine lv_aload_n hx hb dX9_massAfter_39 rfl (lv_at hl 2 rfl) ?_
    obtain ⟨nM_14, hc_15, hE⟩ := bd1_el hE
    refine kv (X := []) (Y := []) (ws1 := (W_M cy aM mM_8 nM_14)) (rV (X := []) (Y := []) (As := []) (rest := []) hC (c_X9_endTrial l D cy aM mM_8 nM_9 nM_14 hc_15) (cwV 0 hts gX9_massAfter_X9_endTrial rfl rfl rfl cd_X9_endTrial ⟨Nat.le_of_ble_eq_true rfl, Nat.le_of_ble_eq_true rfl⟩) hK hN hP hD hS hA rfl 0 9 rfl rfl rfl hl.1 rfl (lv_room (Nat.le_of_ble_eq_true rfl)) dX9_massAfter_40 ⟨Nat.le_of_ble_eq_true rfl, Nat.le_of_ble_eq_true rfl⟩) hP hD hS hA rfl rfl rfl (fun H locs hP hD hS => ?_)
    refine lv_iload_n hx hb dX9_massAfter_43 rfl (lv_at hl 0 rfl) ?_
    have hE := Option.some.inj hE
    obtain ⟨q0, hE⟩ := Prod.mk.inj hE
    obtain ⟨q1, q2⟩ := Prod.mk.inj hE
    exact ei hx hb hr hlocks hK hP hD hS q0 (by rw [q1, q2]) dX9_massAfter_44
  · replace hE := it_t hE c_4
    refine lv_aload_n hx hb dX9_massAfter_17 rfl (lv_at hl 0 rfl) ?_
    refine lv_iconst (v := 1) hx hb dX9_massAfter_18 (by decide) ?_
    obtain ⟨r_16, mM_17, hc_18, hE⟩ := bd2_el hE
    refine ki (X := []) (Y := []) (ws1 := (W_M cy aM mM_17 inM)) (rV (X := []) (Y := []) (As := [.int (1 : Int32)]) (rest := []) hC (c_X9_refuse l D cy aM (1 : Int32) mM_1 inM r_16 mM_17 hc_18) (cwV 1 hts gX9_massAfter_X9_refuse rfl rfl rfl cd_X9_refuse ⟨Nat.le_of_ble_eq_true rfl, Nat.le_of_ble_eq_true rfl⟩) hK hN hP hD hS hA rfl 0 9 rfl rfl rfl hl.1 rfl (lv_room (Nat.le_of_ble_eq_true rfl)) dX9_massAfter_19 ⟨Nat.le_of_ble_eq_true rfl, Nat.le_of_ble_eq_true rfl⟩) hP hD hS hA rfl rfl rfl (fun H locs hP hD hS => ?_)
    have hE := Option.some.inj hE
    obtain ⟨q0, hE⟩ := Prod.mk.inj hE
    obtain ⟨q1, q2⟩ := Prod.mk.inj hE
    exact ei hx hb hr hlocks hK hP hD hS q0 (by rw [q1, q2]) dX9_massAfter_22
abbrev rm_X9_completeIn : Room := { frames := 6, cells := 0, slots := 0, locals := 146 }
set_option maxHeartbeats 40000000 in
set_option maxRecDepth 100000 in
theorem c_X9_completeIn (l : Launch) (D : va_G) (cy : Nat → Nat) (aM : Nat → Nat) (x1 : Int32) (imM : Mem) (inM : MemL) (r' : Int32) (mM' : Mem) (nM' : MemL) (hE : f_X9_completeIn x1 imM inM = some (r', mM', nM')) : CI l yX9_completeIn wsX9_completeIn rm_X9_completeIn D cy [.ref (aM 0), .int x1] (W_M cy aM imM inM) 0 0 r' (W_M cy aM mM' nM') := by
  refine CQ_of (cc := cX9_completeIn) (maxL := 4) (ret := (some .int)) (by decide) rfl (Nat.le_of_ble_eq_true rfl) (fun p e s m args below meth c A ls hx hb hr hml hlocks hnm hown hts hA hK hN hP hD hS hl => ?_)
  have hown : s.vm.findClass RX9 = some m.cls := hown
  have hl : lv_has ls 4 [(0, .ref (aM 0)), (1, .int x1)] := hl
  have hC : CallFix p m c cX9_completeIn 4 s args wsX9_completeIn RX9 := ⟨hx, hb, hml, hown, hts⟩
  have f7 : (Cond.fieldLink RX9 7 "IcePlantModel" "w" "[J").before args s = true := hts _ (mC qf_X9_7)
  have f43 : (Cond.fieldLink RX9 43 "IcePlantModel" "thrown" "I").before args s = true := hts _ (mC qf_X9_43)
  have iX9 : ∀ w ∈ wsX90, w ∈ wsX9_completeIn := fun w h => mC (iA_X9 w h)
  have h97 : ∀ (x2 : Int32) (t0 : Int32) (mM : Mem) (nM : MemL), ∀  (H : Heap) (locs : List Loc) (ls : Array Slot), f_X9_completeIn_b97 x2 t0 mM nM = some (r', mM', nM') → va_P D vwCl (W_M cy aM mM nM) H → va_D A (W_M cy aM mM nM) → va_S A s.heap H locs → lv_has ls 4 [(0, .ref (aM 0)), (2, .int x2)] → W p l e rm_X9_completeIn s m args below meth c H locs 0 0 (MQ below (QI D cy r' (W_M cy aM mM' nM') A) args s 0 0 A) (F0 m 97 ls [.int t0]) := by
    intro x2 t0 mM nM H locs ls hE hP hD hS hl
    replace hE : (bd1 (f_X9_endTrial mM nM) fun nM_1 => (if t0 = 0 then some ((-1 : Int32), mM, nM_1) else some (x2, mM, nM_1))) = some (r', mM', nM') := hE
    refine lv_istore_n (lv' := [(3, .int t0), (0, .ref (aM 0)), (2, .int x2)]) hx hb dX9_completeIn_97 rfl hl (by decide) rfl (fun ls hl => ?_)
    refine lv_aload_n hx hb dX9_completeIn_98 rfl (lv_at hl 1 rfl) ?_
    obtain ⟨nM_1, hc_2, hE⟩ := bd1_el hE
    refine kv (X := []) (Y := []) (ws1 := (W_M cy aM mM nM_1)) (rV (X := []) (Y := []) (As := []) (rest := []) hC (c_X9_endTrial l D cy aM mM nM nM_1 hc_2) (cwV 0 hts gX9_completeIn_X9_endTrial rfl rfl rfl cd_X9_endTrial ⟨Nat.le_of_ble_eq_true rfl, Nat.le_of_ble_eq_true rfl⟩) hK hN hP hD hS hA rfl 0 9 rfl rfl rfl hl.1 rfl (lv_room (Nat.le_of_ble_eq_true rfl)) dX9_completeIn_99 ⟨Nat.le_of_ble_eq_true rfl, Nat.le_of_ble_eq_true rfl⟩) hP hD hS hA rfl rfl rfl (fun H locs hP hD hS => ?_)
    refine lv_iload_n hx hb dX9_completeIn_102 rfl (lv_at hl 0 rfl) ?_
    refine lv_if_eq (tgt := 110) hx hb dX9_completeIn_103 (by decide) (fun c_3 => ?_) (fun c_3 => ?_)
    · replace hE := it_t hE c_3
      refine lv_iconst (v := (-1)) hx hb dX9_completeIn_110 (by decide) ?_
      have hE := Option.some.inj hE
      obtain ⟨q0, hE⟩ := Prod.mk.inj hE
      obtain ⟨q1, q2⟩ := Prod.mk.inj hE
      exact ei hx hb hr hlocks hK hP hD hS q0 (by rw [q1, q2]) dX9_completeIn_111
    · replace hE := it_f hE c_3
      refine lv_iload_n hx hb dX9_completeIn_106 rfl (lv_at hl 2 rfl) ?_
      refine lv_goto (tgt := 111) hx hb dX9_completeIn_107 (by decide) ?_
      have hE := Option.some.inj hE
      obtain ⟨q0, hE⟩ := Prod.mk.inj hE
      obtain ⟨q1, q2⟩ := Prod.mk.inj hE
      exact ei hx hb hr hlocks hK hP hD hS q0 (by rw [q1, q2]) dX9_completeIn_111
  have h77 : ∀ (x1 : Int32) (x2 : Int32) (mM : Mem) (nM : MemL), ∀  (H : Heap) (locs : List Loc) (ls : Array Slot), f_X9_completeIn_b77 x1 x2 mM nM = some (r', mM', nM') → va_P D vwCl (W_M cy aM mM nM) H → va_D A (W_M cy aM mM nM) → va_S A s.heap H locs → lv_has ls 4 [(0, .ref (aM 0)), (1, .int x1), (2, .int x2)] → W p l e rm_X9_completeIn s m args below meth c H locs 0 0 (MQ below (QI D cy r' (W_M cy aM mM' nM') A) args s 0 0 A) (F0 m 77 ls []) := by
    intro x1 x2 mM nM H locs ls hE hP hD hS hl
    replace hE : (gi ((1531 : Int32) + x1) 1888 ((if (lg_cmp (nM 0 ((1531 : Int32) + x1).toNatClampNeg) (1 : Int64)) = 0 then f_X9_completeIn_b97 x2 (1 : Int32) mM nM else f_X9_completeIn_b97 x2 (0 : Int32) mM nM))) = some (r', mM', nM') := hE
    refine lv_aload_n hx hb dX9_completeIn_77 rfl (lv_at hl 0 rfl) ?_
    refine va_get (D := D) (ci := 9) (v := .ref (aM 1)) (C := RX9) (T := TX9) (N := 13) hx hb hts iX9 hown hK hP 0 rfl rfl 0 (by decide) f7 (fun _ h9 => h9) rfl dX9_completeIn_78 ?_
    refine lv_sipush (v := 1531) hx hb dX9_completeIn_81 (by decide) ?_
    refine lv_iload_n hx hb dX9_completeIn_84 rfl (lv_at hl 1 rfl) ?_
    refine lv_iadd hx hb dX9_completeIn_85 ?_
    obtain ⟨g_4, hE⟩ := gi_el hE
    refine va_lald hx hb hK hP 1 1 rfl rfl g_4 dX9_completeIn_86 ?_
    refine lv_lconst (v := 1) hx hb dX9_completeIn_87 (by decide) ?_
    refine W.lcmp hx hb dX9_completeIn_88 ?_
    refine lv_if_ne (tgt := 96) hx hb dX9_completeIn_89 (by decide) (fun c_5 => ?_) (fun c_5 => ?_)
    · replace hE := it_f hE c_5
      refine lv_iconst (v := 0) hx hb dX9_completeIn_96 (by decide) ?_
      exact h97 x2 (0 : Int32) mM nM _ _ _ hE hP hD hS (lv_sub hl [0, 2] rfl)
    · replace hE := it_t hE c_5
      refine lv_iconst (v := 1) hx hb dX9_completeIn_92 (by decide) ?_
      refine lv_goto (tgt := 97) hx hb dX9_completeIn_93 (by decide) ?_
      exact h97 x2 (1 : Int32) mM nM _ _ _ hE hP hD hS (lv_sub hl [0, 2] rfl)
  have h46 : ∀ (x1 : Int32), ∀ (n : Nat), ∀ (x2 : Int32) (mM : Mem) (nM : MemL) (H : Heap) (locs : List Loc) (ls : Array Slot), f_X9_completeIn_L46 x1 n x2 mM nM = some (r', mM', nM') → va_P D vwCl (W_M cy aM mM nM) H → va_D A (W_M cy aM mM nM) → va_S A s.heap H locs → lv_has ls 4 [(0, .ref (aM 0)), (1, .int x1), (2, .int x2)] → W p l e rm_X9_completeIn s m args below meth c H locs 0 0 (MQ below (QI D cy r' (W_M cy aM mM' nM') A) args s 0 0 A) (F0 m 46 ls []) := by
    intro x1 n
    induction n with
    | zero => intro x2 mM nM H locs ls hE; exact absurd hE (fun h9 => nomatch h9)
    | succ n ih =>
      intro x2 mM nM H locs ls hE hP hD hS hl
      replace hE : ((if (48 : Int32) ≤ x2 then f_X9_completeIn_b77 x1 x2 mM nM else gi ((1531 : Int32) + x1) 1888 ((if (lg_cmp (nM 0 ((1531 : Int32) + x1).toNatClampNeg) (0 : Int64)) = 0 then bd2 (f_X9_hour mM nM) fun mM_9 nM_10 => lt' (x2 + (1 : Int32)) fun x2_12 => (f_X9_completeIn_L46 x1 n) x2_12 mM_9 nM_10 else f_X9_completeIn_b77 x1 x2 mM nM)))) = some (r', mM', nM') := hE
      refine lv_iload_n hx hb dX9_completeIn_46 rfl (lv_at hl 2 rfl) ?_
      refine lv_bipush (v := 48) hx hb dX9_completeIn_47 (by decide) ?_
      refine lv_icmp_ge (tgt := 77) hx hb dX9_completeIn_49 (by decide) (fun c_6 => ?_) (fun c_6 => ?_)
      · replace hE := it_t hE c_6
        exact h77 x1 x2 mM nM _ _ _ hE hP hD hS (lv_sub hl [0, 1, 2] rfl)
      · replace hE := it_f hE c_6
        refine lv_aload_n hx hb dX9_completeIn_52 rfl (lv_at hl 0 rfl) ?_
        refine va_get (D := D) (ci := 9) (v := .ref (aM 1)) (C := RX9) (T := TX9) (N := 13) hx hb hts iX9 hown hK hP 0 rfl rfl 0 (by decide) f7 (fun _ h9 => h9) rfl dX9_completeIn_53 ?_
        refine lv_sipush (v := 1531) hx hb dX9_completeIn_56 (by decide) ?_
        refine lv_iload_n hx hb dX9_completeIn_59 rfl (lv_at hl 1 rfl) ?_
        refine lv_iadd hx hb dX9_completeIn_60 ?_
        obtain ⟨g_7, hE⟩ := gi_el hE
        refine va_lald hx hb hK hP 1 1 rfl rfl g_7 dX9_completeIn_61 ?_
        refine lv_lconst (v := 0) hx hb dX9_completeIn_62 (by decide) ?_
        refine W.lcmp hx hb dX9_completeIn_63 ?_
        refine lv_if_ne (tgt := 77) hx hb dX9_completeIn_64 (by decide) (fun c_8 => ?_) (fun c_8 => ?_)
        · replace hE := it_f hE c_8
          exact h77 x1 x2 mM nM _ _ _ hE hP hD hS (lv_sub hl [0, 1, 2] rfl)
        · replace hE := it_t hE c_8
          refine lv_aload_n hx hb dX9_completeIn_67 rfl (lv_at hl 0 rfl) ?_
          obtain ⟨mM_9, nM_10, hc_11, hE⟩ := bd2_el hE
          refine kv (X := []) (Y := []) (ws1 := (W_M cy aM mM_9 nM_10)) (rV (X := []) (Y := []) (As := []) (rest := []) hC (c_X9_hour l D cy aM mM nM mM_9 nM_10 hc_11) (cwV 0 hts gX9_completeIn_X9_hour rfl rfl rfl cd_X9_hour ⟨Nat.le_of_ble_eq_true rfl, Nat.le_of_ble_eq_true rfl⟩) hK hN hP hD hS hA rfl 0 9 rfl rfl rfl hl.1 rfl (lv_room (Nat.le_of_ble_eq_true rfl)) dX9_completeIn_68 ⟨Nat.le_of_ble_eq_true rfl, Nat.le_of_ble_eq_true rfl⟩) hP hD hS hA rfl rfl rfl (fun H locs hP hD hS => ?_)
          obtain ⟨x2_12, e_x2_12, hE⟩ := lt_el hE
          refine lv_iinc (v := x2_12) (lv' := [(2, .int x2_12), (0, .ref (aM 0)), (1, .int x1)]) hx hb dX9_completeIn_71 hl (k := 2) rfl (by rw [e_x2_12]; rfl) (by decide) rfl (fun ls hl => ?_)
          refine lv_goto (tgt := 46) hx hb dX9_completeIn_74 (by decide) ?_
          exact ih x2_12 mM_9 nM_10 _ _ _ hE hP hD hS (lv_sub hl [1, 2, 0] rfl)
  unfold f_X9_completeIn at hE
  refine lv_aload_n hx hb dX9_completeIn_0 rfl (lv_at hl 0 rfl) ?_
  refine lv_iconst (v := 0) hx hb dX9_completeIn_1 (by decide) ?_
  obtain ⟨mM_13, e_mM_13, hE⟩ := lt_el hE
  refine s_pf (own := RX9) (C := RX9) (T := TX9) (N := 13) (ci := 9) (ws1 := (W_M cy aM mM_13 inM)) hx hb hts iX9 tyX9 tyX9_ok nmX9 hown hK hP hD hS 0 rfl rfl 8 (by decide) f43 rfl rfl rfl rfl (Nat.le_of_ble_eq_true rfl) (by rw [e_mM_13]; rfl) dX9_completeIn_2 (fun H locs hP hD hS => ?_)
  refine lv_aload_n hx hb dX9_completeIn_5 rfl (lv_at hl 0 rfl) ?_
  refine lv_iload_n hx hb dX9_completeIn_6 rfl (lv_at hl 1 rfl) ?_
  obtain ⟨r_14, hc_15, hE⟩ := bd1_el hE
  refine ki (X := []) (Y := []) (ws1 := (W_M cy aM mM_13 inM)) (rV (X := []) (Y := []) (As := [.int x1]) (rest := []) hC (c_X9_isOrder l D cy aM x1 mM_13 inM r_14 hc_15) (cwV 1 hts gX9_completeIn_X9_isOrder rfl rfl rfl cd_X9_isOrder ⟨Nat.le_of_ble_eq_true rfl, Nat.le_of_ble_eq_true rfl⟩) hK hN hP hD hS hA rfl 0 9 rfl rfl rfl hl.1 rfl (lv_room (Nat.le_of_ble_eq_true rfl)) dX9_completeIn_7 ⟨Nat.le_of_ble_eq_true rfl, Nat.le_of_ble_eq_true rfl⟩) hP hD hS hA rfl rfl rfl (fun H locs hP hD hS => ?_)
  refine lv_if_ne (tgt := 19) hx hb dX9_completeIn_10 (by decide) (fun c_16 => ?_) (fun c_16 => ?_)
  · replace hE := it_f hE c_16
    refine lv_aload_n hx hb dX9_completeIn_19 rfl (lv_at hl 0 rfl) ?_
    refine va_get (D := D) (ci := 9) (v := .ref (aM 1)) (C := RX9) (T := TX9) (N := 13) hx hb hts iX9 hown hK hP 0 rfl rfl 0 (by decide) f7 (fun _ h9 => h9) rfl dX9_completeIn_20 ?_
    refine lv_sipush (v := 1531) hx hb dX9_completeIn_23 (by decide) ?_
    refine lv_iload_n hx hb dX9_completeIn_26 rfl (lv_at hl 1 rfl) ?_
    refine lv_iadd hx hb dX9_completeIn_27 ?_
    obtain ⟨g_17, hE⟩ := gi_el hE
    refine va_lald hx hb hK hP 1 1 rfl rfl g_17 dX9_completeIn_28 ?_
    refine lv_lconst (v := 0) hx hb dX9_completeIn_29 (by decide) ?_
    refine W.lcmp hx hb dX9_completeIn_30 ?_
    refine lv_if_eq (tgt := 40) hx hb dX9_completeIn_31 (by decide) (fun c_18 => ?_) (fun c_18 => ?_)
    · replace hE := it_t hE c_18
      refine lv_aload_n hx hb dX9_completeIn_40 rfl (lv_at hl 0 rfl) ?_
      obtain ⟨nM_19, hc_20, hE⟩ := bd1_el hE
      refine kv (X := []) (Y := []) (ws1 := (W_M cy aM mM_13 nM_19)) (rV (X := []) (Y := []) (As := []) (rest := []) hC (c_X9_beginTrial l D cy aM mM_13 inM nM_19 hc_20) (cwV 0 hts gX9_completeIn_X9_beginTrial rfl rfl rfl cd_X9_beginTrial ⟨Nat.le_of_ble_eq_true rfl, Nat.le_of_ble_eq_true rfl⟩) hK hN hP hD hS hA rfl 0 9 rfl rfl rfl hl.1 rfl (lv_room (Nat.le_of_ble_eq_true rfl)) dX9_completeIn_41 ⟨Nat.le_of_ble_eq_true rfl, Nat.le_of_ble_eq_true rfl⟩) hP hD hS hA rfl rfl rfl (fun H locs hP hD hS => ?_)
      refine lv_iconst (v := 0) hx hb dX9_completeIn_44 (by decide) ?_
      refine lv_istore_n (lv' := [(2, .int (0 : Int32)), (0, .ref (aM 0)), (1, .int x1)]) hx hb dX9_completeIn_45 rfl hl (by decide) rfl (fun ls hl => ?_)
      exact h46 x1 fuel (0 : Int32) mM_13 nM_19 _ _ _ hE hP hD hS (lv_sub hl [1, 2, 0] rfl)
    · replace hE := it_f hE c_18
      refine lv_aload_n hx hb dX9_completeIn_34 rfl (lv_at hl 0 rfl) ?_
      refine lv_iconst (v := 2) hx hb dX9_completeIn_35 (by decide) ?_
      obtain ⟨r_21, mM_22, hc_23, hE⟩ := bd2_el hE
      refine ki (X := []) (Y := []) (ws1 := (W_M cy aM mM_22 inM)) (rV (X := []) (Y := []) (As := [.int (2 : Int32)]) (rest := []) hC (c_X9_refuse l D cy aM (2 : Int32) mM_13 inM r_21 mM_22 hc_23) (cwV 1 hts gX9_completeIn_X9_refuse rfl rfl rfl cd_X9_refuse ⟨Nat.le_of_ble_eq_true rfl, Nat.le_of_ble_eq_true rfl⟩) hK hN hP hD hS hA rfl 0 9 rfl rfl rfl hl.1 rfl (lv_room (Nat.le_of_ble_eq_true rfl)) dX9_completeIn_36 ⟨Nat.le_of_ble_eq_true rfl, Nat.le_of_ble_eq_true rfl⟩) hP hD hS hA rfl rfl rfl (fun H locs hP hD hS => ?_)
      have hE := Option.some.inj hE
      obtain ⟨q0, hE⟩ := Prod.mk.inj hE
      obtain ⟨q1, q2⟩ := Prod.mk.inj hE
      exact ei hx hb hr hlocks hK hP hD hS q0 (by rw [q1, q2]) dX9_completeIn_39
  · replace hE := it_t hE c_16
    refine lv_aload_n hx hb dX9_completeIn_13 rfl (lv_at hl 0 rfl) ?_
    refine lv_iconst (v := 1) hx hb dX9_completeIn_14 (by decide) ?_
    obtain ⟨r_24, mM_25, hc_26, hE⟩ := bd2_el hE
    refine ki (X := []) (Y := []) (ws1 := (W_M cy aM mM_25 inM)) (rV (X := []) (Y := []) (As := [.int (1 : Int32)]) (rest := []) hC (c_X9_refuse l D cy aM (1 : Int32) mM_13 inM r_24 mM_25 hc_26) (cwV 1 hts gX9_completeIn_X9_refuse rfl rfl rfl cd_X9_refuse ⟨Nat.le_of_ble_eq_true rfl, Nat.le_of_ble_eq_true rfl⟩) hK hN hP hD hS hA rfl 0 9 rfl rfl rfl hl.1 rfl (lv_room (Nat.le_of_ble_eq_true rfl)) dX9_completeIn_15 ⟨Nat.le_of_ble_eq_true rfl, Nat.le_of_ble_eq_true rfl⟩) hP hD hS hA rfl rfl rfl (fun H locs hP hD hS => ?_)
    have hE := Option.some.inj hE
    obtain ⟨q0, hE⟩ := Prod.mk.inj hE
    obtain ⟨q1, q2⟩ := Prod.mk.inj hE
    exact ei hx hb hr hlocks hK hP hD hS q0 (by rw [q1, q2]) dX9_completeIn_18
abbrev rm_X9_bestRule : Room := { frames := 7, cells := 0, slots := 0, locals := 170 }
set_option maxHeartbeats 40000000 in
set_option maxRecDepth 100000 in
theorem c_X9_bestRule (l : Launch) (D : va_G) (cy : Nat → Nat) (aM : Nat → Nat) (x1 : Int32) (x2 : Int32) (imM : Mem) (inM : MemL) (r' : Int32) (mM' : Mem) (nM' : MemL) (hE : f_X9_bestRule x1 x2 imM inM = some (r', mM', nM')) : CI l yX9_bestRule wsX9_bestRule rm_X9_bestRule D cy [.ref (aM 0), .int x1, .int x2] (W_M cy aM imM inM) 0 0 r' (W_M cy aM mM' nM') := by
  refine CQ_of (cc := cX9_bestRule) (maxL := 10) (ret := (some .int)) (by decide) rfl (Nat.le_of_ble_eq_true rfl) (fun p e s m args below meth c A ls hx hb hr hml hlocks hnm hown hts hA hK hN hP hD hS hl => ?_)
  have hown : s.vm.findClass RX9 = some m.cls := hown
  have hl : lv_has ls 10 [(0, .ref (aM 0)), (1, .int x1), (2, .int x2)] := hl
  have hC : CallFix p m c cX9_bestRule 10 s args wsX9_bestRule RX9 := ⟨hx, hb, hml, hown, hts⟩
  have f7 : (Cond.fieldLink RX9 7 "IcePlantModel" "w" "[J").before args s = true := hts _ (mC qf_X9_7)
  have f16 : (Cond.fieldLink RX9 16 "IcePlantModel" "trial" "[J").before args s = true := hts _ (mC qf_X9_16)
  have f43 : (Cond.fieldLink RX9 43 "IcePlantModel" "thrown" "I").before args s = true := hts _ (mC qf_X9_43)
  have iX9 : ∀ w ∈ wsX90, w ∈ wsX9_bestRule := fun w h => mC (iA_X9 w h)
  have k98 : (Cond.constantLong RX9 98 (24)).before args s = true := hts _ (mC qk_X9_98)
  have h117 : ∀ (x1 : Int32) (x2 : Int32) (x3 : Int32) (x4 : Int64) (x6 : Int32) (mM : Mem) (nM : MemL), ∀ (k49 : (Int32 → Int64 → Int32 → Mem → MemL → Option (Int32 × Mem × MemL))), (∀ (x3 : Int32) (x4 : Int64) (x6 : Int32) (mM : Mem) (nM : MemL) (H : Heap) (locs : List Loc) (ls : Array Slot), k49 x3 x4 x6 mM nM = some (r', mM', nM') → va_P D vwCl (W_M cy aM mM nM) H → va_D A (W_M cy aM mM nM) → va_S A s.heap H locs → lv_has ls 10 [(0, .ref (aM 0)), (1, .int x1), (2, .int x2), (3, .int x3), (4, .long x4), (6, .int x6)] → W p l e rm_X9_bestRule s m args below meth c H locs 0 0 (MQ below (QI D cy r' (W_M cy aM mM' nM') A) args s 0 0 A) (F0 m 49 ls [])) → ∀  (H : Heap) (locs : List Loc) (ls : Array Slot), f_X9_bestRule_b117 k49 x1 x2 x3 x4 x6 mM nM = some (r', mM', nM') → va_P D vwCl (W_M cy aM mM nM) H → va_D A (W_M cy aM mM nM) → va_S A s.heap H locs → lv_has ls 10 [(0, .ref (aM 0)), (1, .int x1), (2, .int x2), (3, .int x3), (4, .long x4), (6, .int x6)] → W p l e rm_X9_bestRule s m args below meth c H locs 0 0 (MQ below (QI D cy r' (W_M cy aM mM' nM') A) args s 0 0 A) (F0 m 117 ls []) := by
    intro x1 x2 x3 x4 x6 mM nM k49 hk49 H locs ls hE hP hD hS hl
    replace hE : (lt' (x6 + (1 : Int32)) fun x6_1 => k49 x3 x4 x6_1 mM nM) = some (r', mM', nM') := hE
    obtain ⟨x6_1, e_x6_1, hE⟩ := lt_el hE
    refine lv_iinc (v := x6_1) (lv' := [(6, .int x6_1), (0, .ref (aM 0)), (1, .int x1), (2, .int x2), (3, .int x3), (4, .long x4)]) hx hb dX9_bestRule_117 hl (k := 5) rfl (by rw [e_x6_1]; rfl) (by decide) rfl (fun ls hl => ?_)
    refine lv_goto (tgt := 49) hx hb dX9_bestRule_120 (by decide) ?_
    exact hk49 x3 x4 x6_1 mM nM _ _ _ hE hP hD hS (lv_sub hl [1, 2, 3, 4, 5, 0] rfl)
  have h110 : ∀ (x1 : Int32) (x2 : Int32) (x6 : Int32) (x8 : Int64) (mM : Mem) (nM : MemL), ∀ (k49 : (Int32 → Int64 → Int32 → Mem → MemL → Option (Int32 × Mem × MemL))), (∀ (x3 : Int32) (x4 : Int64) (x6 : Int32) (mM : Mem) (nM : MemL) (H : Heap) (locs : List Loc) (ls : Array Slot), k49 x3 x4 x6 mM nM = some (r', mM', nM') → va_P D vwCl (W_M cy aM mM nM) H → va_D A (W_M cy aM mM nM) → va_S A s.heap H locs → lv_has ls 10 [(0, .ref (aM 0)), (1, .int x1), (2, .int x2), (3, .int x3), (4, .long x4), (6, .int x6)] → W p l e rm_X9_bestRule s m args below meth c H locs 0 0 (MQ below (QI D cy r' (W_M cy aM mM' nM') A) args s 0 0 A) (F0 m 49 ls [])) → ∀  (H : Heap) (locs : List Loc) (ls : Array Slot), f_X9_bestRule_b110 k49 x1 x2 x6 x8 mM nM = some (r', mM', nM') → va_P D vwCl (W_M cy aM mM nM) H → va_D A (W_M cy aM mM nM) → va_S A s.heap H locs → lv_has ls 10 [(0, .ref (aM 0)), (1, .int x1), (2, .int x2), (6, .int x6), (8, .long x8)] → W p l e rm_X9_bestRule s m args below meth c H locs 0 0 (MQ below (QI D cy r' (W_M cy aM mM' nM') A) args s 0 0 A) (F0 m 110 ls []) := by
    intro x1 x2 x6 x8 mM nM k49 hk49 H locs ls hE hP hD hS hl
    replace hE : (f_X9_bestRule_b117 k49 x1 x2 x6 x8 x6 mM nM) = some (r', mM', nM') := hE
    refine lv_iload hx hb dX9_bestRule_110 (lv_at hl 3 rfl) ?_
    refine lv_istore_n (lv' := [(3, .int x6), (0, .ref (aM 0)), (1, .int x1), (2, .int x2), (6, .int x6), (8, .long x8)]) hx hb dX9_bestRule_112 rfl hl (by decide) rfl (fun ls hl => ?_)
    refine lv_lload hx hb dX9_bestRule_113 (lv_at hl 5 rfl) ?_
    refine lv_lstore (lv' := [(4, .long x8), (3, .int x6), (0, .ref (aM 0)), (1, .int x1), (2, .int x2), (6, .int x6), (8, .long x8)]) hx hb dX9_bestRule_115 hl (by decide) rfl (fun ls hl => ?_)
    exact h117 x1 x2 x6 x8 x6 mM nM k49 hk49 _ _ _ hE hP hD hS (lv_sub hl [2, 3, 4, 1, 0, 5] rfl)
  have h49 : ∀ (x1 : Int32) (x2 : Int32), ∀ (n : Nat), ∀ (x3 : Int32) (x4 : Int64) (x6 : Int32) (mM : Mem) (nM : MemL) (H : Heap) (locs : List Loc) (ls : Array Slot), f_X9_bestRule_L49 x1 x2 n x3 x4 x6 mM nM = some (r', mM', nM') → va_P D vwCl (W_M cy aM mM nM) H → va_D A (W_M cy aM mM nM) → va_S A s.heap H locs → lv_has ls 10 [(0, .ref (aM 0)), (1, .int x1), (2, .int x2), (3, .int x3), (4, .long x4), (6, .int x6)] → W p l e rm_X9_bestRule s m args below meth c H locs 0 0 (MQ below (QI D cy r' (W_M cy aM mM' nM') A) args s 0 0 A) (F0 m 49 ls []) := by
    intro x1 x2 n
    induction n with
    | zero => intro x3 x4 x6 mM nM H locs ls hE; exact absurd hE (fun h9 => nomatch h9)
    | succ n ih =>
      intro x3 x4 x6 mM nM H locs ls hE hP hD hS hl
      replace hE : ((if (4 : Int32) ≤ x6 then some (x3, mM, nM) else gi ((37 : Int32) + x1) 1888 (lt' (wrL nM 0 (vp_updL (nM 0) ((37 : Int32) + x1).toNatClampNeg (x6.toInt64))) fun nM_3 => bd3 (f_X9_doPass x2 mM nM_3) fun r_5 mM_6 nM_7 => lt' ((nM_7 0 (1878 : Int32).toNatClampNeg) - (nM_7 2 (1878 : Int32).toNatClampNeg)) fun x8_9 => bd1 (f_X9_endTrial mM_6 nM_7) fun nM_10 => (if x6 = 0 then f_X9_bestRule_b110 (f_X9_bestRule_L49 x1 x2 n) x1 x2 x6 x8_9 mM_6 nM_10 else (if 0 ≤ (lg_cmp x8_9 x4) then f_X9_bestRule_b117 (f_X9_bestRule_L49 x1 x2 n) x1 x2 x3 x4 x6 mM_6 nM_10 else f_X9_bestRule_b110 (f_X9_bestRule_L49 x1 x2 n) x1 x2 x6 x8_9 mM_6 nM_10))))) = some (r', mM', nM') := hE
      refine lv_iload hx hb dX9_bestRule_49 (lv_at hl 5 rfl) ?_
      refine lv_iconst (v := 4) hx hb dX9_bestRule_51 (by decide) ?_
      refine lv_icmp_ge (tgt := 123) hx hb dX9_bestRule_52 (by decide) (fun c_2 => ?_) (fun c_2 => ?_)
      · replace hE := it_t hE c_2
        refine lv_iload_n hx hb dX9_bestRule_123 rfl (lv_at hl 3 rfl) ?_
        have hE := Option.some.inj hE
        obtain ⟨q0, hE⟩ := Prod.mk.inj hE
        obtain ⟨q1, q2⟩ := Prod.mk.inj hE
        exact ei hx hb hr hlocks hK hP hD hS q0 (by rw [q1, q2]) dX9_bestRule_124
      · replace hE := it_f hE c_2
        refine lv_aload_n hx hb dX9_bestRule_55 rfl (lv_at hl 0 rfl) ?_
        refine va_get (D := D) (ci := 9) (v := .ref (aM 1)) (C := RX9) (T := TX9) (N := 13) hx hb hts iX9 hown hK hP 0 rfl rfl 0 (by decide) f7 (fun _ h9 => h9) rfl dX9_bestRule_56 ?_
        refine lv_bipush (v := 37) hx hb dX9_bestRule_59 (by decide) ?_
        refine lv_iload_n hx hb dX9_bestRule_61 rfl (lv_at hl 1 rfl) ?_
        refine lv_iadd hx hb dX9_bestRule_62 ?_
        refine lv_iload hx hb dX9_bestRule_63 (lv_at hl 5 rfl) ?_
        refine lv_i2l hx hb dX9_bestRule_65 rfl ?_
        obtain ⟨g_4, hE⟩ := gi_el hE
        obtain ⟨nM_3, e_nM_3, hE⟩ := lt_el hE
        refine s_la (ws1 := (W_M cy aM mM nM_3)) hx hb hK hP hD hS 1 rfl g_4 (by rw [e_nM_3]; rfl) dX9_bestRule_66 (fun H locs hP hD hS => ?_)
        refine lv_aload_n hx hb dX9_bestRule_67 rfl (lv_at hl 0 rfl) ?_
        refine lv_iload_n hx hb dX9_bestRule_68 rfl (lv_at hl 2 rfl) ?_
        obtain ⟨r_5, mM_6, nM_7, hc_8, hE⟩ := bd3_el hE
        refine ki (X := []) (Y := []) (ws1 := (W_M cy aM mM_6 nM_7)) (rV (X := []) (Y := []) (As := [.int x2]) (rest := []) hC (c_X9_doPass l D cy aM x2 mM nM_3 r_5 mM_6 nM_7 hc_8) (cwV 1 hts gX9_bestRule_X9_doPass rfl rfl rfl cd_X9_doPass ⟨Nat.le_of_ble_eq_true rfl, Nat.le_of_ble_eq_true rfl⟩) hK hN hP hD hS hA rfl 0 9 rfl rfl rfl hl.1 rfl (lv_room (Nat.le_of_ble_eq_true rfl)) dX9_bestRule_69 ⟨Nat.le_of_ble_eq_true rfl, Nat.le_of_ble_eq_true rfl⟩) hP hD hS hA rfl rfl rfl (fun H locs hP hD hS => ?_)
        refine lv_istore (lv' := [(7, .int r_5), (0, .ref (aM 0)), (1, .int x1), (2, .int x2), (3, .int x3), (4, .long x4), (6, .int x6)]) hx hb dX9_bestRule_72 hl (by decide) rfl (fun ls hl => ?_)
        refine lv_aload_n hx hb dX9_bestRule_74 rfl (lv_at hl 1 rfl) ?_
        refine va_get (D := D) (ci := 9) (v := .ref (aM 1)) (C := RX9) (T := TX9) (N := 13) hx hb hts iX9 hown hK hP 0 rfl rfl 0 (by decide) f7 (fun _ h9 => h9) rfl dX9_bestRule_75 ?_
        refine lv_sipush (v := 1878) hx hb dX9_bestRule_78 (by decide) ?_
        refine va_lald hx hb hK hP 1 1 rfl rfl (show ¬ ((1878 : Int32) < 0 ∨ 1888 ≤ (1878 : Int32).toNatClampNeg) by decide) dX9_bestRule_81 ?_
        refine lv_aload_n hx hb dX9_bestRule_82 rfl (lv_at hl 1 rfl) ?_
        refine va_get (D := D) (ci := 9) (v := .ref (aM 3)) (C := RX9) (T := TX9) (N := 13) hx hb hts iX9 hown hK hP 0 rfl rfl 2 (by decide) f16 (fun _ h9 => h9) rfl dX9_bestRule_83 ?_
        refine lv_sipush (v := 1878) hx hb dX9_bestRule_86 (by decide) ?_
        refine va_lald hx hb hK hP 3 1 rfl rfl (show ¬ ((1878 : Int32) < 0 ∨ 1888 ≤ (1878 : Int32).toNatClampNeg) by decide) dX9_bestRule_89 ?_
        refine lv_lsub hx hb dX9_bestRule_90 ?_
        obtain ⟨x8_9, e_x8_9, hE⟩ := lt_el hE
        refine s_nmL e_x8_9 ?_
        refine lv_lstore (lv' := [(8, .long x8_9), (7, .int r_5), (0, .ref (aM 0)), (1, .int x1), (2, .int x2), (3, .int x3), (4, .long x4), (6, .int x6)]) hx hb dX9_bestRule_91 hl (by decide) rfl (fun ls hl => ?_)
        refine lv_aload_n hx hb dX9_bestRule_93 rfl (lv_at hl 2 rfl) ?_
        obtain ⟨nM_10, hc_11, hE⟩ := bd1_el hE
        refine kv (X := []) (Y := []) (ws1 := (W_M cy aM mM_6 nM_10)) (rV (X := []) (Y := []) (As := []) (rest := []) hC (c_X9_endTrial l D cy aM mM_6 nM_7 nM_10 hc_11) (cwV 0 hts gX9_bestRule_X9_endTrial rfl rfl rfl cd_X9_endTrial ⟨Nat.le_of_ble_eq_true rfl, Nat.le_of_ble_eq_true rfl⟩) hK hN hP hD hS hA rfl 0 9 rfl rfl rfl hl.1 rfl (lv_room (Nat.le_of_ble_eq_true rfl)) dX9_bestRule_94 ⟨Nat.le_of_ble_eq_true rfl, Nat.le_of_ble_eq_true rfl⟩) hP hD hS hA rfl rfl rfl (fun H locs hP hD hS => ?_)
        refine lv_iload hx hb dX9_bestRule_97 (lv_at hl 7 rfl) ?_
        refine lv_if_eq (tgt := 110) hx hb dX9_bestRule_99 (by decide) (fun c_12 => ?_) (fun c_12 => ?_)
        · replace hE := it_t hE c_12
          exact h110 x1 x2 x6 x8_9 mM_6 nM_10 (f_X9_bestRule_L49 x1 x2 n) ih _ _ _ hE hP hD hS (lv_sub hl [2, 3, 4, 7, 0] rfl)
        · replace hE := it_f hE c_12
          refine lv_lload hx hb dX9_bestRule_102 (lv_at hl 0 rfl) ?_
          refine lv_lload hx hb dX9_bestRule_104 (lv_at hl 6 rfl) ?_
          refine W.lcmp hx hb dX9_bestRule_106 ?_
          refine lv_if_ge (tgt := 117) hx hb dX9_bestRule_107 (by decide) (fun c_13 => ?_) (fun c_13 => ?_)
          · replace hE := it_t hE c_13
            exact h117 x1 x2 x3 x4 x6 mM_6 nM_10 (f_X9_bestRule_L49 x1 x2 n) ih _ _ _ hE hP hD hS (lv_sub hl [2, 3, 4, 5, 6, 7] rfl)
          · replace hE := it_f hE c_13
            exact h110 x1 x2 x6 x8_9 mM_6 nM_10 (f_X9_bestRule_L49 x1 x2 n) ih _ _ _ hE hP hD hS (lv_sub hl [2, 3, 4, 7, 0] rfl)
  unfold f_X9_bestRule at hE
  refine lv_aload_n hx hb dX9_bestRule_0 rfl (lv_at hl 0 rfl) ?_
  refine lv_iconst (v := 0) hx hb dX9_bestRule_1 (by decide) ?_
  obtain ⟨mM_14, e_mM_14, hE⟩ := lt_el hE
  refine s_pf (own := RX9) (C := RX9) (T := TX9) (N := 13) (ci := 9) (ws1 := (W_M cy aM mM_14 inM)) hx hb hts iX9 tyX9 tyX9_ok nmX9 hown hK hP hD hS 0 rfl rfl 8 (by decide) f43 rfl rfl rfl rfl (Nat.le_of_ble_eq_true rfl) (by rw [e_mM_14]; rfl) dX9_bestRule_2 (fun H locs hP hD hS => ?_)
  refine lv_aload_n hx hb dX9_bestRule_5 rfl (lv_at hl 0 rfl) ?_
  refine lv_iload_n hx hb dX9_bestRule_6 rfl (lv_at hl 1 rfl) ?_
  obtain ⟨r_15, hc_16, hE⟩ := bd1_el hE
  refine ki (X := []) (Y := []) (ws1 := (W_M cy aM mM_14 inM)) (rV (X := []) (Y := []) (As := [.int x1]) (rest := []) hC (c_X9_isSilo l D cy aM x1 mM_14 inM r_15 hc_16) (cwV 1 hts gX9_bestRule_X9_isSilo rfl rfl rfl cd_X9_isSilo ⟨Nat.le_of_ble_eq_true rfl, Nat.le_of_ble_eq_true rfl⟩) hK hN hP hD hS hA rfl 0 9 rfl rfl rfl hl.1 rfl (lv_room (Nat.le_of_ble_eq_true rfl)) dX9_bestRule_7 ⟨Nat.le_of_ble_eq_true rfl, Nat.le_of_ble_eq_true rfl⟩) hP hD hS hA rfl rfl rfl (fun H locs hP hD hS => ?_)
  refine lv_if_ne (tgt := 19) hx hb dX9_bestRule_10 (by decide) (fun c_17 => ?_) (fun c_17 => ?_)
  · replace hE := it_f hE c_17
    refine lv_iload_n hx hb dX9_bestRule_19 rfl (lv_at hl 2 rfl) ?_
    refine lv_i2l hx hb dX9_bestRule_20 rfl ?_
    refine lv_lconst (v := 1) hx hb dX9_bestRule_21 (by decide) ?_
    refine lv_ldc2 hx hb hown k98 dX9_bestRule_22 ?_
    obtain ⟨r_18, hc_19, hE⟩ := bd1_el hE
    refine ki (X := []) (Y := (W_M cy aM mM_14 inM)) (ws1 := (W_M cy aM mM_14 inM)) (rS (X := []) (Y := (W_M cy aM mM_14 inM)) (As := [.long (x2.toInt64), .long (1 : Int64), .long (24 : Int64)]) (rest := []) hC (c_X9_in l D cy (x2.toInt64) (1 : Int64) (24 : Int64) r_18 hc_19) (cwS 3 hts gX9_bestRule_X9_in rfl rfl rfl cd_X9_in ⟨Nat.le_of_ble_eq_true rfl, Nat.le_of_ble_eq_true rfl⟩) hK hN hP hD hS hA rfl rfl hl.1 rfl (lv_room (Nat.le_of_ble_eq_true rfl)) dX9_bestRule_25 ⟨Nat.le_of_ble_eq_true rfl, Nat.le_of_ble_eq_true rfl⟩) hP hD hS hA rfl rfl rfl (fun H locs hP hD hS => ?_)
    refine lv_if_ne (tgt := 37) hx hb dX9_bestRule_28 (by decide) (fun c_20 => ?_) (fun c_20 => ?_)
    · replace hE := it_f hE c_20
      refine lv_iconst (v := 0) hx hb dX9_bestRule_37 (by decide) ?_
      refine lv_istore_n (lv' := [(3, .int (0 : Int32)), (0, .ref (aM 0)), (1, .int x1), (2, .int x2)]) hx hb dX9_bestRule_38 rfl hl (by decide) rfl (fun ls hl => ?_)
      refine lv_lconst (v := 0) hx hb dX9_bestRule_39 (by decide) ?_
      refine lv_lstore (lv' := [(4, .long (0 : Int64)), (3, .int (0 : Int32)), (0, .ref (aM 0)), (1, .int x1), (2, .int x2)]) hx hb dX9_bestRule_40 hl (by decide) rfl (fun ls hl => ?_)
      refine lv_aload_n hx hb dX9_bestRule_42 rfl (lv_at hl 2 rfl) ?_
      obtain ⟨nM_21, hc_22, hE⟩ := bd1_el hE
      refine kv (X := []) (Y := []) (ws1 := (W_M cy aM mM_14 nM_21)) (rV (X := []) (Y := []) (As := []) (rest := []) hC (c_X9_beginTrial l D cy aM mM_14 inM nM_21 hc_22) (cwV 0 hts gX9_bestRule_X9_beginTrial rfl rfl rfl cd_X9_beginTrial ⟨Nat.le_of_ble_eq_true rfl, Nat.le_of_ble_eq_true rfl⟩) hK hN hP hD hS hA rfl 0 9 rfl rfl rfl hl.1 rfl (lv_room (Nat.le_of_ble_eq_true rfl)) dX9_bestRule_43 ⟨Nat.le_of_ble_eq_true rfl, Nat.le_of_ble_eq_true rfl⟩) hP hD hS hA rfl rfl rfl (fun H locs hP hD hS => ?_)
      refine lv_iconst (v := 0) hx hb dX9_bestRule_46 (by decide) ?_
      refine lv_istore (lv' := [(6, .int (0 : Int32)), (4, .long (0 : Int64)), (3, .int (0 : Int32)), (0, .ref (aM 0)), (1, .int x1), (2, .int x2)]) hx hb dX9_bestRule_47 hl (by decide) rfl (fun ls hl => ?_)
      exact h49 x1 x2 fuel (0 : Int32) (0 : Int64) (0 : Int32) mM_14 nM_21 _ _ _ hE hP hD hS (lv_sub hl [3, 4, 5, 2, 1, 0] rfl)
    · replace hE := it_t hE c_20
      refine lv_aload_n hx hb dX9_bestRule_31 rfl (lv_at hl 0 rfl) ?_
      refine lv_iconst (v := 2) hx hb dX9_bestRule_32 (by decide) ?_
      obtain ⟨r_23, mM_24, hc_25, hE⟩ := bd2_el hE
      refine ki (X := []) (Y := []) (ws1 := (W_M cy aM mM_24 inM)) (rV (X := []) (Y := []) (As := [.int (2 : Int32)]) (rest := []) hC (c_X9_refuse l D cy aM (2 : Int32) mM_14 inM r_23 mM_24 hc_25) (cwV 1 hts gX9_bestRule_X9_refuse rfl rfl rfl cd_X9_refuse ⟨Nat.le_of_ble_eq_true rfl, Nat.le_of_ble_eq_true rfl⟩) hK hN hP hD hS hA rfl 0 9 rfl rfl rfl hl.1 rfl (lv_room (Nat.le_of_ble_eq_true rfl)) dX9_bestRule_33 ⟨Nat.le_of_ble_eq_true rfl, Nat.le_of_ble_eq_true rfl⟩) hP hD hS hA rfl rfl rfl (fun H locs hP hD hS => ?_)
      have hE := Option.some.inj hE
      obtain ⟨q0, hE⟩ := Prod.mk.inj hE
      obtain ⟨q1, q2⟩ := Prod.mk.inj hE
      exact ei hx hb hr hlocks hK hP hD hS q0 (by rw [q1, q2]) dX9_bestRule_36
  · replace hE := it_t hE c_17
    refine lv_aload_n hx hb dX9_bestRule_13 rfl (lv_at hl 0 rfl) ?_
    refine lv_iconst (v := 1) hx hb dX9_bestRule_14 (by decide) ?_
    obtain ⟨r_26, mM_27, hc_28, hE⟩ := bd2_el hE
    refine ki (X := []) (Y := []) (ws1 := (W_M cy aM mM_27 inM)) (rV (X := []) (Y := []) (As := [.int (1 : Int32)]) (rest := []) hC (c_X9_refuse l D cy aM (1 : Int32) mM_14 inM r_26 mM_27 hc_28) (cwV 1 hts gX9_bestRule_X9_refuse rfl rfl rfl cd_X9_refuse ⟨Nat.le_of_ble_eq_true rfl, Nat.le_of_ble_eq_true rfl⟩) hK hN hP hD hS hA rfl 0 9 rfl rfl rfl hl.1 rfl (lv_room (Nat.le_of_ble_eq_true rfl)) dX9_bestRule_15 ⟨Nat.le_of_ble_eq_true rfl, Nat.le_of_ble_eq_true rfl⟩) hP hD hS hA rfl rfl rfl (fun H locs hP hD hS => ?_)
    have hE := Option.some.inj hE
    obtain ⟨q0, hE⟩ := Prod.mk.inj hE
    obtain ⟨q1, q2⟩ := Prod.mk.inj hE
    exact ei hx hb hr hlocks hK hP hD hS q0 (by rw [q1, q2]) dX9_bestRule_18
abbrev rm_X9_quote : Room := { frames := 2, cells := 0, slots := 0, locals := 46 }
set_option maxHeartbeats 40000000 in
set_option maxRecDepth 100000 in
theorem c_X9_quote (l : Launch) (D : va_G) (cy : Nat → Nat) (aM : Nat → Nat) (x1 : Int32) (x2 : Int32) (x3 : Int32) (imM : Mem) (inM : MemL) (r' : Int32) (mM' : Mem) (hE : f_X9_quote x1 x2 x3 imM inM = some (r', mM')) : CI l yX9_quote wsX9_quote rm_X9_quote D cy [.ref (aM 0), .int x1, .int x2, .int x3] (W_M cy aM imM inM) 0 0 r' (W_M cy aM mM' inM) := by
  refine CQ_of (cc := cX9_quote) (maxL := 4) (ret := (some .int)) (by decide) rfl (Nat.le_of_ble_eq_true rfl) (fun p e s m args below meth c A ls hx hb hr hml hlocks hnm hown hts hA hK hN hP hD hS hl => ?_)
  have hown : s.vm.findClass RX9 = some m.cls := hown
  have hl : lv_has ls 4 [(0, .ref (aM 0)), (1, .int x1), (2, .int x2), (3, .int x3)] := hl
  have hC : CallFix p m c cX9_quote 4 s args wsX9_quote RX9 := ⟨hx, hb, hml, hown, hts⟩
  have f43 : (Cond.fieldLink RX9 43 "IcePlantModel" "thrown" "I").before args s = true := hts _ (mC qf_X9_43)
  have iX9 : ∀ w ∈ wsX90, w ∈ wsX9_quote := fun w h => mC (iA_X9 w h)
  have k204 : (Cond.constantLong RX9 204 (9999)).before args s = true := hts _ (mC qk_X9_204)
  have h53 : ∀ (mM : Mem), ∀  (H : Heap) (locs : List Loc) (ls : Array Slot), f_X9_quote_b53 mM inM = some (r', mM') → va_P D vwCl (W_M cy aM mM inM) H → va_D A (W_M cy aM mM inM) → va_S A s.heap H locs → lv_has ls 4 [(0, .ref (aM 0))] → W p l e rm_X9_quote s m args below meth c H locs 0 0 (MQ below (QI D cy r' (W_M cy aM mM' inM) A) args s 0 0 A) (F0 m 53 ls []) := by
    intro mM H locs ls hE hP hD hS hl
    replace hE : (bd2 (f_X9_refuse (2 : Int32) mM inM) fun r_1 mM_2 => some (r_1, mM_2)) = some (r', mM') := hE
    refine lv_aload_n hx hb dX9_quote_53 rfl (lv_at hl 0 rfl) ?_
    refine lv_iconst (v := 2) hx hb dX9_quote_54 (by decide) ?_
    obtain ⟨r_1, mM_2, hc_3, hE⟩ := bd2_el hE
    refine ki (X := []) (Y := []) (ws1 := (W_M cy aM mM_2 inM)) (rV (X := []) (Y := []) (As := [.int (2 : Int32)]) (rest := []) hC (c_X9_refuse l D cy aM (2 : Int32) mM inM r_1 mM_2 hc_3) (cwV 1 hts gX9_quote_X9_refuse rfl rfl rfl cd_X9_refuse ⟨Nat.le_of_ble_eq_true rfl, Nat.le_of_ble_eq_true rfl⟩) hK hN hP hD hS hA rfl 0 9 rfl rfl rfl hl.1 rfl (lv_room (Nat.le_of_ble_eq_true rfl)) dX9_quote_55 ⟨Nat.le_of_ble_eq_true rfl, Nat.le_of_ble_eq_true rfl⟩) hP hD hS hA rfl rfl rfl (fun H locs hP hD hS => ?_)
    have hE := Option.some.inj hE
    obtain ⟨q0, q1⟩ := Prod.mk.inj hE
    exact ei hx hb hr hlocks hK hP hD hS q0 (by rw [q1]) dX9_quote_58
  unfold f_X9_quote at hE
  refine lv_aload_n hx hb dX9_quote_0 rfl (lv_at hl 0 rfl) ?_
  refine lv_iconst (v := 0) hx hb dX9_quote_1 (by decide) ?_
  obtain ⟨mM_4, e_mM_4, hE⟩ := lt_el hE
  refine s_pf (own := RX9) (C := RX9) (T := TX9) (N := 13) (ci := 9) (ws1 := (W_M cy aM mM_4 inM)) hx hb hts iX9 tyX9 tyX9_ok nmX9 hown hK hP hD hS 0 rfl rfl 8 (by decide) f43 rfl rfl rfl rfl (Nat.le_of_ble_eq_true rfl) (by rw [e_mM_4]; rfl) dX9_quote_2 (fun H locs hP hD hS => ?_)
  refine lv_aload_n hx hb dX9_quote_5 rfl (lv_at hl 0 rfl) ?_
  refine lv_iload_n hx hb dX9_quote_6 rfl (lv_at hl 1 rfl) ?_
  obtain ⟨r_5, hc_6, hE⟩ := bd1_el hE
  refine ki (X := []) (Y := []) (ws1 := (W_M cy aM mM_4 inM)) (rV (X := []) (Y := []) (As := [.int x1]) (rest := []) hC (c_X9_isBoat l D cy aM x1 mM_4 inM r_5 hc_6) (cwV 1 hts gX9_quote_X9_isBoat rfl rfl rfl cd_X9_isBoat ⟨Nat.le_of_ble_eq_true rfl, Nat.le_of_ble_eq_true rfl⟩) hK hN hP hD hS hA rfl 0 9 rfl rfl rfl hl.1 rfl (lv_room (Nat.le_of_ble_eq_true rfl)) dX9_quote_7 ⟨Nat.le_of_ble_eq_true rfl, Nat.le_of_ble_eq_true rfl⟩) hP hD hS hA rfl rfl rfl (fun H locs hP hD hS => ?_)
  refine lv_if_ne (tgt := 19) hx hb dX9_quote_10 (by decide) (fun c_7 => ?_) (fun c_7 => ?_)
  · replace hE := it_f hE c_7
    refine lv_iload_n hx hb dX9_quote_19 rfl (lv_at hl 2 rfl) ?_
    refine lv_i2l hx hb dX9_quote_20 rfl ?_
    refine lv_lconst (v := 0) hx hb dX9_quote_21 (by decide) ?_
    refine lv_ldc2 hx hb hown k204 dX9_quote_22 ?_
    obtain ⟨r_8, hc_9, hE⟩ := bd1_el hE
    refine ki (X := []) (Y := (W_M cy aM mM_4 inM)) (ws1 := (W_M cy aM mM_4 inM)) (rS (X := []) (Y := (W_M cy aM mM_4 inM)) (As := [.long (x2.toInt64), .long (0 : Int64), .long (9999 : Int64)]) (rest := []) hC (c_X9_in l D cy (x2.toInt64) (0 : Int64) (9999 : Int64) r_8 hc_9) (cwS 3 hts gX9_quote_X9_in rfl rfl rfl cd_X9_in ⟨Nat.le_of_ble_eq_true rfl, Nat.le_of_ble_eq_true rfl⟩) hK hN hP hD hS hA rfl rfl hl.1 rfl (lv_room (Nat.le_of_ble_eq_true rfl)) dX9_quote_25 ⟨Nat.le_of_ble_eq_true rfl, Nat.le_of_ble_eq_true rfl⟩) hP hD hS hA rfl rfl rfl (fun H locs hP hD hS => ?_)
    refine lv_if_eq (tgt := 53) hx hb dX9_quote_28 (by decide) (fun c_10 => ?_) (fun c_10 => ?_)
    · replace hE := it_t hE c_10
      exact h53 mM_4 _ _ _ hE hP hD hS (lv_sub hl [0] rfl)
    · replace hE := it_f hE c_10
      refine lv_iload_n hx hb dX9_quote_31 rfl (lv_at hl 3 rfl) ?_
      refine lv_i2l hx hb dX9_quote_32 rfl ?_
      refine lv_lconst (v := 0) hx hb dX9_quote_33 (by decide) ?_
      refine lv_lconst (v := 1) hx hb dX9_quote_34 (by decide) ?_
      obtain ⟨r_11, hc_12, hE⟩ := bd1_el hE
      refine ki (X := []) (Y := (W_M cy aM mM_4 inM)) (ws1 := (W_M cy aM mM_4 inM)) (rS (X := []) (Y := (W_M cy aM mM_4 inM)) (As := [.long (x3.toInt64), .long (0 : Int64), .long (1 : Int64)]) (rest := []) hC (c_X9_in l D cy (x3.toInt64) (0 : Int64) (1 : Int64) r_11 hc_12) (cwS 3 hts gX9_quote_X9_in rfl rfl rfl cd_X9_in ⟨Nat.le_of_ble_eq_true rfl, Nat.le_of_ble_eq_true rfl⟩) hK hN hP hD hS hA rfl rfl hl.1 rfl (lv_room (Nat.le_of_ble_eq_true rfl)) dX9_quote_35 ⟨Nat.le_of_ble_eq_true rfl, Nat.le_of_ble_eq_true rfl⟩) hP hD hS hA rfl rfl rfl (fun H locs hP hD hS => ?_)
      refine lv_if_eq (tgt := 53) hx hb dX9_quote_38 (by decide) (fun c_13 => ?_) (fun c_13 => ?_)
      · replace hE := it_t hE c_13
        exact h53 mM_4 _ _ _ hE hP hD hS (lv_sub hl [0] rfl)
      · replace hE := it_f hE c_13
        refine lv_aload_n hx hb dX9_quote_41 rfl (lv_at hl 0 rfl) ?_
        refine lv_iload_n hx hb dX9_quote_42 rfl (lv_at hl 1 rfl) ?_
        refine lv_iload_n hx hb dX9_quote_43 rfl (lv_at hl 2 rfl) ?_
        refine lv_i2l hx hb dX9_quote_44 rfl ?_
        refine lv_iload_n hx hb dX9_quote_45 rfl (lv_at hl 3 rfl) ?_
        obtain ⟨r_14, hc_15, hE⟩ := bd1_el hE
        refine kl (X := []) (Y := []) (ws1 := (W_M cy aM mM_4 inM)) (rV (X := []) (Y := []) (As := [.int x1, .long (x2.toInt64), .int x3]) (rest := []) hC (c_X9_priceOf l D cy aM x1 (x2.toInt64) x3 mM_4 inM r_14 hc_15) (cwV 3 hts gX9_quote_X9_priceOf rfl rfl rfl cd_X9_priceOf ⟨Nat.le_of_ble_eq_true rfl, Nat.le_of_ble_eq_true rfl⟩) hK hN hP hD hS hA rfl 0 9 rfl rfl rfl hl.1 rfl (lv_room (Nat.le_of_ble_eq_true rfl)) dX9_quote_46 ⟨Nat.le_of_ble_eq_true rfl, Nat.le_of_ble_eq_true rfl⟩) hP hD hS hA rfl rfl rfl (fun H locs hP hD hS => ?_)
        refine lv_l2i hx hb dX9_quote_49 rfl ?_
        refine lv_goto (tgt := 58) hx hb dX9_quote_50 (by decide) ?_
        have hE := Option.some.inj hE
        obtain ⟨q0, q1⟩ := Prod.mk.inj hE
        exact ei hx hb hr hlocks hK hP hD hS q0 (by rw [q1]) dX9_quote_58
  · replace hE := it_t hE c_7
    refine lv_aload_n hx hb dX9_quote_13 rfl (lv_at hl 0 rfl) ?_
    refine lv_iconst (v := 1) hx hb dX9_quote_14 (by decide) ?_
    obtain ⟨r_16, mM_17, hc_18, hE⟩ := bd2_el hE
    refine ki (X := []) (Y := []) (ws1 := (W_M cy aM mM_17 inM)) (rV (X := []) (Y := []) (As := [.int (1 : Int32)]) (rest := []) hC (c_X9_refuse l D cy aM (1 : Int32) mM_4 inM r_16 mM_17 hc_18) (cwV 1 hts gX9_quote_X9_refuse rfl rfl rfl cd_X9_refuse ⟨Nat.le_of_ble_eq_true rfl, Nat.le_of_ble_eq_true rfl⟩) hK hN hP hD hS hA rfl 0 9 rfl rfl rfl hl.1 rfl (lv_room (Nat.le_of_ble_eq_true rfl)) dX9_quote_15 ⟨Nat.le_of_ble_eq_true rfl, Nat.le_of_ble_eq_true rfl⟩) hP hD hS hA rfl rfl rfl (fun H locs hP hD hS => ?_)
    have hE := Option.some.inj hE
    obtain ⟨q0, q1⟩ := Prod.mk.inj hE
    exact ei hx hb hr hlocks hK hP hD hS q0 (by rw [q1]) dX9_quote_18
abbrev rm_X9_append : Room := { frames := 1, cells := 0, slots := 0, locals := 25 }
set_option maxHeartbeats 40000000 in
set_option maxRecDepth 100000 in
theorem c_X9_append (l : Launch) (D : va_G) (cy : Nat → Nat) (aM : Nat → Nat) (x1 : Int32) (imM : Mem) (inM : MemL) (r' : Int32) (mM' : Mem) (hE : f_X9_append x1 imM inM = some (r', mM')) : CI l yX9_append wsX9_append rm_X9_append D cy [.ref (aM 0), .int x1] (W_M cy aM imM inM) 0 0 r' (W_M cy aM mM' inM) := by
  refine CQ_of (cc := cX9_append) (maxL := 2) (ret := (some .int)) (by decide) rfl (Nat.le_of_ble_eq_true rfl) (fun p e s m args below meth c A ls hx hb hr hml hlocks hnm hown hts hA hK hN hP hD hS hl => ?_)
  have hown : s.vm.findClass RX9 = some m.cls := hown
  have hl : lv_has ls 2 [(0, .ref (aM 0)), (1, .int x1)] := hl
  have hC : CallFix p m c cX9_append 2 s args wsX9_append RX9 := ⟨hx, hb, hml, hown, hts⟩
  have f23 : (Cond.fieldLink RX9 23 "IcePlantModel" "text" "[I").before args s = true := hts _ (mC qf_X9_23)
  have f43 : (Cond.fieldLink RX9 43 "IcePlantModel" "thrown" "I").before args s = true := hts _ (mC qf_X9_43)
  have f246 : (Cond.fieldLink RX9 246 "IcePlantModel" "length" "I").before args s = true := hts _ (mC qf_X9_246)
  have iX9 : ∀ w ∈ wsX90, w ∈ wsX9_append := fun w h => mC (iA_X9 w h)
  have k242 : (Cond.constantLong RX9 242 (32)).before args s = true := hts _ (mC qk_X9_242)
  have k244 : (Cond.constantLong RX9 244 (126)).before args s = true := hts _ (mC qk_X9_244)
  unfold f_X9_append at hE
  refine lv_aload_n hx hb dX9_append_0 rfl (lv_at hl 0 rfl) ?_
  refine lv_iconst (v := 0) hx hb dX9_append_1 (by decide) ?_
  obtain ⟨mM_1, e_mM_1, hE⟩ := lt_el hE
  refine s_pf (own := RX9) (C := RX9) (T := TX9) (N := 13) (ci := 9) (ws1 := (W_M cy aM mM_1 inM)) hx hb hts iX9 tyX9 tyX9_ok nmX9 hown hK hP hD hS 0 rfl rfl 8 (by decide) f43 rfl rfl rfl rfl (Nat.le_of_ble_eq_true rfl) (by rw [e_mM_1]; rfl) dX9_append_2 (fun H locs hP hD hS => ?_)
  refine lv_iload_n hx hb dX9_append_5 rfl (lv_at hl 1 rfl) ?_
  refine lv_i2l hx hb dX9_append_6 rfl ?_
  refine lv_ldc2 hx hb hown k242 dX9_append_7 ?_
  refine lv_ldc2 hx hb hown k244 dX9_append_10 ?_
  obtain ⟨r_2, hc_3, hE⟩ := bd1_el hE
  refine ki (X := []) (Y := (W_M cy aM mM_1 inM)) (ws1 := (W_M cy aM mM_1 inM)) (rS (X := []) (Y := (W_M cy aM mM_1 inM)) (As := [.long (x1.toInt64), .long (32 : Int64), .long (126 : Int64)]) (rest := []) hC (c_X9_in l D cy (x1.toInt64) (32 : Int64) (126 : Int64) r_2 hc_3) (cwS 3 hts gX9_append_X9_in rfl rfl rfl cd_X9_in ⟨Nat.le_of_ble_eq_true rfl, Nat.le_of_ble_eq_true rfl⟩) hK hN hP hD hS hA rfl rfl hl.1 rfl (lv_room (Nat.le_of_ble_eq_true rfl)) dX9_append_13 ⟨Nat.le_of_ble_eq_true rfl, Nat.le_of_ble_eq_true rfl⟩) hP hD hS hA rfl rfl rfl (fun H locs hP hD hS => ?_)
  refine lv_if_ne (tgt := 25) hx hb dX9_append_16 (by decide) (fun c_4 => ?_) (fun c_4 => ?_)
  · replace hE := it_f hE c_4
    refine lv_aload_n hx hb dX9_append_25 rfl (lv_at hl 0 rfl) ?_
    refine va_get (D := D) (ci := 9) (v := .int (mM_1 7 0)) (C := RX9) (T := TX9) (N := 13) hx hb hts iX9 hown hK hP 0 rfl rfl 7 (by decide) f246 (fun _ h9 => h9) rfl dX9_append_26 ?_
    refine lv_bipush (v := 120) hx hb dX9_append_29 (by decide) ?_
    refine lv_icmp_ne (tgt := 40) hx hb dX9_append_31 (by decide) (fun c_5 => ?_) (fun c_5 => ?_)
    · replace hE := it_f hE c_5
      refine lv_aload_n hx hb dX9_append_40 rfl (lv_at hl 0 rfl) ?_
      refine va_get (D := D) (ci := 9) (v := .ref (aM 5)) (C := RX9) (T := TX9) (N := 13) hx hb hts iX9 hown hK hP 0 rfl rfl 4 (by decide) f23 (fun _ h9 => h9) rfl dX9_append_41 ?_
      refine lv_aload_n hx hb dX9_append_44 rfl (lv_at hl 0 rfl) ?_
      refine va_get (D := D) (ci := 9) (v := .int (mM_1 7 0)) (C := RX9) (T := TX9) (N := 13) hx hb hts iX9 hown hK hP 0 rfl rfl 7 (by decide) f246 (fun _ h9 => h9) rfl dX9_append_45 ?_
      refine lv_iload_n hx hb dX9_append_48 rfl (lv_at hl 1 rfl) ?_
      obtain ⟨g_7, hE⟩ := gi_el hE
      obtain ⟨mM_6, e_mM_6, hE⟩ := lt_el hE
      refine s_ia (ws1 := (W_M cy aM mM_6 inM)) hx hb hK hP hD hS 5 rfl g_7 (by rw [e_mM_6]; rfl) dX9_append_49 (fun H locs hP hD hS => ?_)
      refine lv_aload_n hx hb dX9_append_50 rfl (lv_at hl 0 rfl) ?_
      refine lv_dup hx hb dX9_append_51 rfl ?_
      refine va_get (D := D) (ci := 9) (v := .int (mM_6 7 0)) (C := RX9) (T := TX9) (N := 13) hx hb hts iX9 hown hK hP 0 rfl rfl 7 (by decide) f246 (fun _ h9 => h9) rfl dX9_append_52 ?_
      refine lv_iconst (v := 1) hx hb dX9_append_55 (by decide) ?_
      refine lv_iadd hx hb dX9_append_56 ?_
      obtain ⟨mM_8, e_mM_8, hE⟩ := lt_el hE
      refine s_pf (own := RX9) (C := RX9) (T := TX9) (N := 13) (ci := 9) (ws1 := (W_M cy aM mM_8 inM)) hx hb hts iX9 tyX9 tyX9_ok nmX9 hown hK hP hD hS 0 rfl rfl 7 (by decide) f246 rfl rfl rfl rfl (Nat.le_of_ble_eq_true rfl) (by rw [e_mM_8]; rfl) dX9_append_57 (fun H locs hP hD hS => ?_)
      refine lv_aload_n hx hb dX9_append_60 rfl (lv_at hl 0 rfl) ?_
      refine va_get (D := D) (ci := 9) (v := .int (mM_8 7 0)) (C := RX9) (T := TX9) (N := 13) hx hb hts iX9 hown hK hP 0 rfl rfl 7 (by decide) f246 (fun _ h9 => h9) rfl dX9_append_61 ?_
      have hE := Option.some.inj hE
      obtain ⟨q0, q1⟩ := Prod.mk.inj hE
      exact ei hx hb hr hlocks hK hP hD hS q0 (by rw [q1]) dX9_append_64
    · replace hE := it_t hE c_5
      refine lv_aload_n hx hb dX9_append_34 rfl (lv_at hl 0 rfl) ?_
      refine lv_iconst (v := 2) hx hb dX9_append_35 (by decide) ?_
      obtain ⟨r_9, mM_10, hc_11, hE⟩ := bd2_el hE
      refine ki (X := []) (Y := []) (ws1 := (W_M cy aM mM_10 inM)) (rV (X := []) (Y := []) (As := [.int (2 : Int32)]) (rest := []) hC (c_X9_refuse l D cy aM (2 : Int32) mM_1 inM r_9 mM_10 hc_11) (cwV 1 hts gX9_append_X9_refuse rfl rfl rfl cd_X9_refuse ⟨Nat.le_of_ble_eq_true rfl, Nat.le_of_ble_eq_true rfl⟩) hK hN hP hD hS hA rfl 0 9 rfl rfl rfl hl.1 rfl (lv_room (Nat.le_of_ble_eq_true rfl)) dX9_append_36 ⟨Nat.le_of_ble_eq_true rfl, Nat.le_of_ble_eq_true rfl⟩) hP hD hS hA rfl rfl rfl (fun H locs hP hD hS => ?_)
      have hE := Option.some.inj hE
      obtain ⟨q0, q1⟩ := Prod.mk.inj hE
      exact ei hx hb hr hlocks hK hP hD hS q0 (by rw [q1]) dX9_append_39
  · replace hE := it_t hE c_4
    refine lv_aload_n hx hb dX9_append_19 rfl (lv_at hl 0 rfl) ?_
    refine lv_iconst (v := 1) hx hb dX9_append_20 (by decide) ?_
    obtain ⟨r_12, mM_13, hc_14, hE⟩ := bd2_el hE
    refine ki (X := []) (Y := []) (ws1 := (W_M cy aM mM_13 inM)) (rV (X := []) (Y := []) (As := [.int (1 : Int32)]) (rest := []) hC (c_X9_refuse l D cy aM (1 : Int32) mM_1 inM r_12 mM_13 hc_14) (cwV 1 hts gX9_append_X9_refuse rfl rfl rfl cd_X9_refuse ⟨Nat.le_of_ble_eq_true rfl, Nat.le_of_ble_eq_true rfl⟩) hK hN hP hD hS hA rfl 0 9 rfl rfl rfl hl.1 rfl (lv_room (Nat.le_of_ble_eq_true rfl)) dX9_append_21 ⟨Nat.le_of_ble_eq_true rfl, Nat.le_of_ble_eq_true rfl⟩) hP hD hS hA rfl rfl rfl (fun H locs hP hD hS => ?_)
    have hE := Option.some.inj hE
    obtain ⟨q0, q1⟩ := Prod.mk.inj hE
    exact ei hx hb hr hlocks hK hP hD hS q0 (by rw [q1]) dX9_append_24
abbrev rm_X9_clear : Room := { frames := 0, cells := 0, slots := 0, locals := 0 }
set_option maxHeartbeats 40000000 in
set_option maxRecDepth 100000 in
theorem c_X9_clear (l : Launch) (D : va_G) (cy : Nat → Nat) (aM : Nat → Nat) (imM : Mem) (inM : MemL) (r' : Int32) (mM' : Mem) (hE : f_X9_clear imM inM = some (r', mM')) : CI l yX9_clear wsX9_clear rm_X9_clear D cy [.ref (aM 0)] (W_M cy aM imM inM) 0 0 r' (W_M cy aM mM' inM) := by
  refine CQ_of (cc := cX9_clear) (maxL := 2) (ret := (some .int)) (by decide) rfl (Nat.le_of_ble_eq_true rfl) (fun p e s m args below meth c A ls hx hb hr hml hlocks hnm hown hts hA hK hN hP hD hS hl => ?_)
  have hown : s.vm.findClass RX9 = some m.cls := hown
  have hl : lv_has ls 2 [(0, .ref (aM 0))] := hl
  have f43 : (Cond.fieldLink RX9 43 "IcePlantModel" "thrown" "I").before args s = true := hts _ (mC qf_X9_43)
  have f246 : (Cond.fieldLink RX9 246 "IcePlantModel" "length" "I").before args s = true := hts _ (mC qf_X9_246)
  have iX9 : ∀ w ∈ wsX90, w ∈ wsX9_clear := fun w h => mC (iA_X9 w h)
  unfold f_X9_clear at hE
  refine lv_aload_n hx hb dX9_clear_0 rfl (lv_at hl 0 rfl) ?_
  refine lv_iconst (v := 0) hx hb dX9_clear_1 (by decide) ?_
  obtain ⟨mM_1, e_mM_1, hE⟩ := lt_el hE
  refine s_pf (own := RX9) (C := RX9) (T := TX9) (N := 13) (ci := 9) (ws1 := (W_M cy aM mM_1 inM)) hx hb hts iX9 tyX9 tyX9_ok nmX9 hown hK hP hD hS 0 rfl rfl 8 (by decide) f43 rfl rfl rfl rfl (Nat.le_of_ble_eq_true rfl) (by rw [e_mM_1]; rfl) dX9_clear_2 (fun H locs hP hD hS => ?_)
  refine lv_aload_n hx hb dX9_clear_5 rfl (lv_at hl 0 rfl) ?_
  refine va_get (D := D) (ci := 9) (v := .int (mM_1 7 0)) (C := RX9) (T := TX9) (N := 13) hx hb hts iX9 hown hK hP 0 rfl rfl 7 (by decide) f246 (fun _ h9 => h9) rfl dX9_clear_6 ?_
  obtain ⟨x1_2, e_x1_2, hE⟩ := lt_el hE
  refine s_nm e_x1_2 ?_
  refine lv_istore_n (lv' := [(1, .int x1_2), (0, .ref (aM 0))]) hx hb dX9_clear_9 rfl hl (by decide) rfl (fun ls hl => ?_)
  refine lv_aload_n hx hb dX9_clear_10 rfl (lv_at hl 1 rfl) ?_
  refine lv_iconst (v := 0) hx hb dX9_clear_11 (by decide) ?_
  obtain ⟨mM_3, e_mM_3, hE⟩ := lt_el hE
  refine s_pf (own := RX9) (C := RX9) (T := TX9) (N := 13) (ci := 9) (ws1 := (W_M cy aM mM_3 inM)) hx hb hts iX9 tyX9 tyX9_ok nmX9 hown hK hP hD hS 0 rfl rfl 7 (by decide) f246 rfl rfl rfl rfl (Nat.le_of_ble_eq_true rfl) (by rw [e_mM_3]; rfl) dX9_clear_12 (fun H locs hP hD hS => ?_)
  refine lv_iload_n hx hb dX9_clear_15 rfl (lv_at hl 0 rfl) ?_
  have hE := Option.some.inj hE
  obtain ⟨q0, q1⟩ := Prod.mk.inj hE
  exact ei hx hb hr hlocks hK hP hD hS q0 (by rw [q1]) dX9_clear_16
abbrev rm_X9_needs : Room := { frames := 0, cells := 0, slots := 0, locals := 0 }
set_option maxHeartbeats 40000000 in
set_option maxRecDepth 100000 in
theorem c_X9_needs (l : Launch) (D : va_G) (cy : Nat → Nat) (aM : Nat → Nat) (imM : Mem) (inM : MemL) (r' : Int32) (hE : f_X9_needs imM inM = some r') : CI l yX9_needs wsX9_needs rm_X9_needs D cy [.ref (aM 0)] (W_M cy aM imM inM) 0 0 r' (W_M cy aM imM inM) := by
  refine CQ_of (cc := cX9_needs) (maxL := 1) (ret := (some .int)) (by decide) rfl (Nat.le_of_ble_eq_true rfl) (fun p e s m args below meth c A ls hx hb hr hml hlocks hnm hown hts hA hK hN hP hD hS hl => ?_)
  have hown : s.vm.findClass RX9 = some m.cls := hown
  have hl : lv_has ls 1 [(0, .ref (aM 0))] := hl
  have f249 : (Cond.fieldLink RX9 249 "IcePlantModel" "word" "I").before args s = true := hts _ (mC qf_X9_249)
  have iX9 : ∀ w ∈ wsX90, w ∈ wsX9_needs := fun w h => mC (iA_X9 w h)
  unfold f_X9_needs at hE
  refine lv_aload_n hx hb dX9_needs_0 rfl (lv_at hl 0 rfl) ?_
  refine va_get (D := D) (ci := 9) (v := .int (imM 9 0)) (C := RX9) (T := TX9) (N := 13) hx hb hts iX9 hown hK hP 0 rfl rfl 9 (by decide) f249 (fun _ h9 => h9) rfl dX9_needs_1 ?_
  refine lv_bipush (v := 104) hx hb dX9_needs_4 (by decide) ?_
  refine lv_icmp_ne (tgt := 13) hx hb dX9_needs_6 (by decide) (fun c_1 => ?_) (fun c_1 => ?_)
  · replace hE := it_f hE c_1
    refine lv_aload_n hx hb dX9_needs_13 rfl (lv_at hl 0 rfl) ?_
    refine va_get (D := D) (ci := 9) (v := .int (imM 9 0)) (C := RX9) (T := TX9) (N := 13) hx hb hts iX9 hown hK hP 0 rfl rfl 9 (by decide) f249 (fun _ h9 => h9) rfl dX9_needs_14 ?_
    refine lv_bipush (v := 111) hx hb dX9_needs_17 (by decide) ?_
    refine lv_icmp_ne (tgt := 26) hx hb dX9_needs_19 (by decide) (fun c_2 => ?_) (fun c_2 => ?_)
    · replace hE := it_f hE c_2
      refine lv_iconst (v := 2) hx hb dX9_needs_26 (by decide) ?_
      have hE := Option.some.inj hE
      exact ei hx hb hr hlocks hK hP hD hS hE rfl dX9_needs_27
    · replace hE := it_t hE c_2
      refine lv_iconst (v := 3) hx hb dX9_needs_22 (by decide) ?_
      refine lv_goto (tgt := 27) hx hb dX9_needs_23 (by decide) ?_
      have hE := Option.some.inj hE
      exact ei hx hb hr hlocks hK hP hD hS hE rfl dX9_needs_27
  · replace hE := it_t hE c_1
    refine lv_iconst (v := 1) hx hb dX9_needs_9 (by decide) ?_
    refine lv_goto (tgt := 27) hx hb dX9_needs_10 (by decide) ?_
    have hE := Option.some.inj hE
    exact ei hx hb hr hlocks hK hP hD hS hE rfl dX9_needs_27
abbrev rm_X9_readOne : Room := { frames := 1, cells := 0, slots := 0, locals := 25 }
set_option maxHeartbeats 40000000 in
set_option maxRecDepth 100000 in
theorem c_X9_readOne (l : Launch) (D : va_G) (cy : Nat → Nat) (aM : Nat → Nat) (x1 : Int32) (imM : Mem) (inM : MemL) (r' : Int32) (mM' : Mem) (hE : f_X9_readOne x1 imM inM = some (r', mM')) : CI l yX9_readOne wsX9_readOne rm_X9_readOne D cy [.ref (aM 0), .int x1] (W_M cy aM imM inM) 0 0 r' (W_M cy aM mM' inM) := by
  refine CQ_of (cc := cX9_readOne) (maxL := 3) (ret := (some .int)) (by decide) rfl (Nat.le_of_ble_eq_true rfl) (fun p e s m args below meth c A ls hx hb hr hml hlocks hnm hown hts hA hK hN hP hD hS hl => ?_)
  have hown : s.vm.findClass RX9 = some m.cls := hown
  have hl : lv_has ls 3 [(0, .ref (aM 0)), (1, .int x1)] := hl
  have hC : CallFix p m c cX9_readOne 3 s args wsX9_readOne RX9 := ⟨hx, hb, hml, hown, hts⟩
  have f26 : (Cond.fieldLink RX9 26 "IcePlantModel" "number" "[I").before args s = true := hts _ (mC qf_X9_26)
  have f249 : (Cond.fieldLink RX9 249 "IcePlantModel" "word" "I").before args s = true := hts _ (mC qf_X9_249)
  have f252 : (Cond.fieldLink RX9 252 "IcePlantModel" "at" "I").before args s = true := hts _ (mC qf_X9_252)
  have f255 : (Cond.fieldLink RX9 255 "IcePlantModel" "digits" "I").before args s = true := hts _ (mC qf_X9_255)
  have f258 : (Cond.fieldLink RX9 258 "IcePlantModel" "whole" "Z").before args s = true := hts _ (mC qf_X9_258)
  have iX9 : ∀ w ∈ wsX90, w ∈ wsX9_readOne := fun w h => mC (iA_X9 w h)
  have k181 : (Cond.constantLong RX9 181 (48)).before args s = true := hts _ (mC qk_X9_181)
  have k262 : (Cond.constantLong RX9 262 (57)).before args s = true := hts _ (mC qk_X9_262)
  have h249 : ∀ (x1 : Int32) (mM : Mem), ∀  (H : Heap) (locs : List Loc) (ls : Array Slot), f_X9_readOne_b249 x1 mM inM = some (r', mM') → va_P D vwCl (W_M cy aM mM inM) H → va_D A (W_M cy aM mM inM) → va_S A s.heap H locs → lv_has ls 3 [(0, .ref (aM 0)), (1, .int x1)] → W p l e rm_X9_readOne s m args below meth c H locs 0 0 (MQ below (QI D cy r' (W_M cy aM mM' inM) A) args s 0 0 A) (F0 m 249 ls []) := by
    intro x1 mM H locs ls hE hP hD hS hl
    replace hE : ((if x1 = (59 : Int32) then bd1 (f_X9_needs mM inM) fun r_2 => (if ((mM 10 0) + (1 : Int32)) = r_2 then some ((0 : Int32), mM) else some ((1 : Int32), mM)) else some ((1 : Int32), mM))) = some (r', mM') := hE
    refine lv_iload_n hx hb dX9_readOne_249 rfl (lv_at hl 1 rfl) ?_
    refine lv_bipush (v := 59) hx hb dX9_readOne_250 (by decide) ?_
    refine lv_icmp_ne (tgt := 272) hx hb dX9_readOne_252 (by decide) (fun c_1 => ?_) (fun c_1 => ?_)
    · replace hE := it_f hE c_1
      refine lv_iconst (v := 1) hx hb dX9_readOne_272 (by decide) ?_
      have hE := Option.some.inj hE
      obtain ⟨q0, q1⟩ := Prod.mk.inj hE
      exact ei hx hb hr hlocks hK hP hD hS q0 (by rw [q1]) dX9_readOne_273
    · replace hE := it_t hE c_1
      refine lv_aload_n hx hb dX9_readOne_255 rfl (lv_at hl 0 rfl) ?_
      refine va_get (D := D) (ci := 9) (v := .int (mM 10 0)) (C := RX9) (T := TX9) (N := 13) hx hb hts iX9 hown hK hP 0 rfl rfl 10 (by decide) f252 (fun _ h9 => h9) rfl dX9_readOne_256 ?_
      refine lv_iconst (v := 1) hx hb dX9_readOne_259 (by decide) ?_
      refine lv_iadd hx hb dX9_readOne_260 ?_
      refine lv_aload_n hx hb dX9_readOne_261 rfl (lv_at hl 0 rfl) ?_
      obtain ⟨r_2, hc_3, hE⟩ := bd1_el hE
      refine ki (X := []) (Y := []) (ws1 := (W_M cy aM mM inM)) (rV (X := []) (Y := []) (As := []) (rest := [.int ((mM 10 0) + (1 : Int32))]) hC (c_X9_needs l D cy aM mM inM r_2 hc_3) (cwV 0 hts gX9_readOne_X9_needs rfl rfl rfl cd_X9_needs ⟨Nat.le_of_ble_eq_true rfl, Nat.le_of_ble_eq_true rfl⟩) hK hN hP hD hS hA rfl 0 9 rfl rfl rfl hl.1 rfl (lv_room (Nat.le_of_ble_eq_true rfl)) dX9_readOne_262 ⟨Nat.le_of_ble_eq_true rfl, Nat.le_of_ble_eq_true rfl⟩) hP hD hS hA rfl rfl rfl (fun H locs hP hD hS => ?_)
      refine lv_icmp_ne (tgt := 272) hx hb dX9_readOne_265 (by decide) (fun c_4 => ?_) (fun c_4 => ?_)
      · replace hE := it_f hE c_4
        refine lv_iconst (v := 1) hx hb dX9_readOne_272 (by decide) ?_
        have hE := Option.some.inj hE
        obtain ⟨q0, q1⟩ := Prod.mk.inj hE
        exact ei hx hb hr hlocks hK hP hD hS q0 (by rw [q1]) dX9_readOne_273
      · replace hE := it_t hE c_4
        refine lv_iconst (v := 0) hx hb dX9_readOne_268 (by decide) ?_
        refine lv_goto (tgt := 273) hx hb dX9_readOne_269 (by decide) ?_
        have hE := Option.some.inj hE
        obtain ⟨q0, q1⟩ := Prod.mk.inj hE
        exact ei hx hb hr hlocks hK hP hD hS q0 (by rw [q1]) dX9_readOne_273
  have h212 : ∀ (x1 : Int32) (mM : Mem), ∀  (H : Heap) (locs : List Loc) (ls : Array Slot), f_X9_readOne_b212 x1 mM inM = some (r', mM') → va_P D vwCl (W_M cy aM mM inM) H → va_D A (W_M cy aM mM inM) → va_S A s.heap H locs → lv_has ls 3 [(0, .ref (aM 0)), (1, .int x1)] → W p l e rm_X9_readOne s m args below meth c H locs 0 0 (MQ below (QI D cy r' (W_M cy aM mM' inM) A) args s 0 0 A) (F0 m 212 ls []) := by
    intro x1 mM H locs ls hE hP hD hS hl
    replace hE : ((if x1 = (33 : Int32) then (if (mM 9 0) = (111 : Int32) then (if (mM 10 0) = (2 : Int32) then (if (mM 12 0) = 0 then lt' (wrI mM 12 (fun _ => (1 : Int32))) fun mM_9 => some ((0 : Int32), mM_9) else f_X9_readOne_b249 x1 mM inM) else f_X9_readOne_b249 x1 mM inM) else f_X9_readOne_b249 x1 mM inM) else f_X9_readOne_b249 x1 mM inM)) = some (r', mM') := hE
    refine lv_iload_n hx hb dX9_readOne_212 rfl (lv_at hl 1 rfl) ?_
    refine lv_bipush (v := 33) hx hb dX9_readOne_213 (by decide) ?_
    refine lv_icmp_ne (tgt := 249) hx hb dX9_readOne_215 (by decide) (fun c_5 => ?_) (fun c_5 => ?_)
    · replace hE := it_f hE c_5
      exact h249 x1 mM _ _ _ hE hP hD hS (lv_sub hl [0, 1] rfl)
    · replace hE := it_t hE c_5
      refine lv_aload_n hx hb dX9_readOne_218 rfl (lv_at hl 0 rfl) ?_
      refine va_get (D := D) (ci := 9) (v := .int (mM 9 0)) (C := RX9) (T := TX9) (N := 13) hx hb hts iX9 hown hK hP 0 rfl rfl 9 (by decide) f249 (fun _ h9 => h9) rfl dX9_readOne_219 ?_
      refine lv_bipush (v := 111) hx hb dX9_readOne_222 (by decide) ?_
      refine lv_icmp_ne (tgt := 249) hx hb dX9_readOne_224 (by decide) (fun c_6 => ?_) (fun c_6 => ?_)
      · replace hE := it_f hE c_6
        exact h249 x1 mM _ _ _ hE hP hD hS (lv_sub hl [0, 1] rfl)
      · replace hE := it_t hE c_6
        refine lv_aload_n hx hb dX9_readOne_227 rfl (lv_at hl 0 rfl) ?_
        refine va_get (D := D) (ci := 9) (v := .int (mM 10 0)) (C := RX9) (T := TX9) (N := 13) hx hb hts iX9 hown hK hP 0 rfl rfl 10 (by decide) f252 (fun _ h9 => h9) rfl dX9_readOne_228 ?_
        refine lv_iconst (v := 2) hx hb dX9_readOne_231 (by decide) ?_
        refine lv_icmp_ne (tgt := 249) hx hb dX9_readOne_232 (by decide) (fun c_7 => ?_) (fun c_7 => ?_)
        · replace hE := it_f hE c_7
          exact h249 x1 mM _ _ _ hE hP hD hS (lv_sub hl [0, 1] rfl)
        · replace hE := it_t hE c_7
          refine lv_aload_n hx hb dX9_readOne_235 rfl (lv_at hl 0 rfl) ?_
          refine va_get (D := D) (ci := 9) (v := .int (mM 12 0)) (C := RX9) (T := TX9) (N := 13) hx hb hts iX9 hown hK hP 0 rfl rfl 12 (by decide) f258 (fun _ h9 => h9) rfl dX9_readOne_236 ?_
          refine lv_if_ne (tgt := 249) hx hb dX9_readOne_239 (by decide) (fun c_8 => ?_) (fun c_8 => ?_)
          · replace hE := it_f hE c_8
            exact h249 x1 mM _ _ _ hE hP hD hS (lv_sub hl [0, 1] rfl)
          · replace hE := it_t hE c_8
            refine lv_aload_n hx hb dX9_readOne_242 rfl (lv_at hl 0 rfl) ?_
            refine lv_iconst (v := 1) hx hb dX9_readOne_243 (by decide) ?_
            obtain ⟨mM_9, e_mM_9, hE⟩ := lt_el hE
            refine s_pf (own := RX9) (C := RX9) (T := TX9) (N := 13) (ci := 9) (ws1 := (W_M cy aM mM_9 inM)) hx hb hts iX9 tyX9 tyX9_ok nmX9 hown hK hP hD hS 0 rfl rfl 12 (by decide) f258 rfl rfl (by decide) (by decide) (Nat.le_of_ble_eq_true rfl) (by rw [e_mM_9]; rfl) dX9_readOne_244 (fun H locs hP hD hS => ?_)
            refine lv_iconst (v := 0) hx hb dX9_readOne_247 (by decide) ?_
            have hE := Option.some.inj hE
            obtain ⟨q0, q1⟩ := Prod.mk.inj hE
            exact ei hx hb hr hlocks hK hP hD hS q0 (by rw [q1]) dX9_readOne_248
  have h167 : ∀ (x1 : Int32) (mM : Mem), ∀  (H : Heap) (locs : List Loc) (ls : Array Slot), f_X9_readOne_b167 x1 mM inM = some (r', mM') → va_P D vwCl (W_M cy aM mM inM) H → va_D A (W_M cy aM mM inM) → va_S A s.heap H locs → lv_has ls 3 [(0, .ref (aM 0)), (1, .int x1)] → W p l e rm_X9_readOne s m args below meth c H locs 0 0 (MQ below (QI D cy r' (W_M cy aM mM' inM) A) args s 0 0 A) (F0 m 167 ls []) := by
    intro x1 mM H locs ls hE hP hD hS hl
    replace hE : ((if (mM 11 0) = 0 then some ((1 : Int32), mM) else (if x1 = (44 : Int32) then bd1 (f_X9_needs mM inM) fun r_12 => (if r_12 ≤ ((mM 10 0) + (1 : Int32)) then f_X9_readOne_b212 x1 mM inM else lt' (wrI mM 10 (fun _ => ((mM 10 0) + (1 : Int32)))) fun mM_15 => lt' (wrI mM_15 11 (fun _ => (0 : Int32))) fun mM_16 => some ((0 : Int32), mM_16)) else f_X9_readOne_b212 x1 mM inM))) = some (r', mM') := hE
    refine lv_aload_n hx hb dX9_readOne_167 rfl (lv_at hl 0 rfl) ?_
    refine va_get (D := D) (ci := 9) (v := .int (mM 11 0)) (C := RX9) (T := TX9) (N := 13) hx hb hts iX9 hown hK hP 0 rfl rfl 11 (by decide) f255 (fun _ h9 => h9) rfl dX9_readOne_168 ?_
    refine lv_if_ne (tgt := 176) hx hb dX9_readOne_171 (by decide) (fun c_10 => ?_) (fun c_10 => ?_)
    · replace hE := it_f hE c_10
      refine lv_iload_n hx hb dX9_readOne_176 rfl (lv_at hl 1 rfl) ?_
      refine lv_bipush (v := 44) hx hb dX9_readOne_177 (by decide) ?_
      refine lv_icmp_ne (tgt := 212) hx hb dX9_readOne_179 (by decide) (fun c_11 => ?_) (fun c_11 => ?_)
      · replace hE := it_f hE c_11
        exact h212 x1 mM _ _ _ hE hP hD hS (lv_sub hl [0, 1] rfl)
      · replace hE := it_t hE c_11
        refine lv_aload_n hx hb dX9_readOne_182 rfl (lv_at hl 0 rfl) ?_
        refine va_get (D := D) (ci := 9) (v := .int (mM 10 0)) (C := RX9) (T := TX9) (N := 13) hx hb hts iX9 hown hK hP 0 rfl rfl 10 (by decide) f252 (fun _ h9 => h9) rfl dX9_readOne_183 ?_
        refine lv_iconst (v := 1) hx hb dX9_readOne_186 (by decide) ?_
        refine lv_iadd hx hb dX9_readOne_187 ?_
        refine lv_aload_n hx hb dX9_readOne_188 rfl (lv_at hl 0 rfl) ?_
        obtain ⟨r_12, hc_13, hE⟩ := bd1_el hE
        refine ki (X := []) (Y := []) (ws1 := (W_M cy aM mM inM)) (rV (X := []) (Y := []) (As := []) (rest := [.int ((mM 10 0) + (1 : Int32))]) hC (c_X9_needs l D cy aM mM inM r_12 hc_13) (cwV 0 hts gX9_readOne_X9_needs rfl rfl rfl cd_X9_needs ⟨Nat.le_of_ble_eq_true rfl, Nat.le_of_ble_eq_true rfl⟩) hK hN hP hD hS hA rfl 0 9 rfl rfl rfl hl.1 rfl (lv_room (Nat.le_of_ble_eq_true rfl)) dX9_readOne_189 ⟨Nat.le_of_ble_eq_true rfl, Nat.le_of_ble_eq_true rfl⟩) hP hD hS hA rfl rfl rfl (fun H locs hP hD hS => ?_)
        refine lv_icmp_ge (tgt := 212) hx hb dX9_readOne_192 (by decide) (fun c_14 => ?_) (fun c_14 => ?_)
        · replace hE := it_t hE c_14
          exact h212 x1 mM _ _ _ hE hP hD hS (lv_sub hl [0, 1] rfl)
        · replace hE := it_f hE c_14
          refine lv_aload_n hx hb dX9_readOne_195 rfl (lv_at hl 0 rfl) ?_
          refine lv_dup hx hb dX9_readOne_196 rfl ?_
          refine va_get (D := D) (ci := 9) (v := .int (mM 10 0)) (C := RX9) (T := TX9) (N := 13) hx hb hts iX9 hown hK hP 0 rfl rfl 10 (by decide) f252 (fun _ h9 => h9) rfl dX9_readOne_197 ?_
          refine lv_iconst (v := 1) hx hb dX9_readOne_200 (by decide) ?_
          refine lv_iadd hx hb dX9_readOne_201 ?_
          obtain ⟨mM_15, e_mM_15, hE⟩ := lt_el hE
          refine s_pf (own := RX9) (C := RX9) (T := TX9) (N := 13) (ci := 9) (ws1 := (W_M cy aM mM_15 inM)) hx hb hts iX9 tyX9 tyX9_ok nmX9 hown hK hP hD hS 0 rfl rfl 10 (by decide) f252 rfl rfl rfl rfl (Nat.le_of_ble_eq_true rfl) (by rw [e_mM_15]; rfl) dX9_readOne_202 (fun H locs hP hD hS => ?_)
          refine lv_aload_n hx hb dX9_readOne_205 rfl (lv_at hl 0 rfl) ?_
          refine lv_iconst (v := 0) hx hb dX9_readOne_206 (by decide) ?_
          obtain ⟨mM_16, e_mM_16, hE⟩ := lt_el hE
          refine s_pf (own := RX9) (C := RX9) (T := TX9) (N := 13) (ci := 9) (ws1 := (W_M cy aM mM_16 inM)) hx hb hts iX9 tyX9 tyX9_ok nmX9 hown hK hP hD hS 0 rfl rfl 11 (by decide) f255 rfl rfl rfl rfl (Nat.le_of_ble_eq_true rfl) (by rw [e_mM_16]; rfl) dX9_readOne_207 (fun H locs hP hD hS => ?_)
          refine lv_iconst (v := 0) hx hb dX9_readOne_210 (by decide) ?_
          have hE := Option.some.inj hE
          obtain ⟨q0, q1⟩ := Prod.mk.inj hE
          exact ei hx hb hr hlocks hK hP hD hS q0 (by rw [q1]) dX9_readOne_211
    · replace hE := it_t hE c_10
      refine lv_iconst (v := 1) hx hb dX9_readOne_174 (by decide) ?_
      have hE := Option.some.inj hE
      obtain ⟨q0, q1⟩ := Prod.mk.inj hE
      exact ei hx hb hr hlocks hK hP hD hS q0 (by rw [q1]) dX9_readOne_175
  have h141 : ∀ (t0 : Int32) (t1 : Int32) (mM : Mem), ∀  (H : Heap) (locs : List Loc) (ls : Array Slot), f_X9_readOne_b141 t0 t1 mM inM = some (r', mM') → va_P D vwCl (W_M cy aM mM inM) H → va_D A (W_M cy aM mM inM) → va_S A s.heap H locs → lv_has ls 3 [(0, .ref (aM 0))] → W p l e rm_X9_readOne s m args below meth c H locs 0 0 (MQ below (QI D cy r' (W_M cy aM mM' inM) A) args s 0 0 A) (F0 m 141 ls [.int t0, .int t1, .ref (aM 6)]) := by
    intro t0 t1 mM H locs ls hE hP hD hS hl
    replace hE : (gi t1 3 (lt' (wrI mM 5 (upd (mM 5) t1.toNatClampNeg t0)) fun mM_17 => lt' (wrI mM_17 11 (fun _ => ((mM_17 11 0) + (1 : Int32)))) fun mM_19 => (if (mM_19 11 0) ≤ (6 : Int32) then some ((0 : Int32), mM_19) else some ((2 : Int32), mM_19)))) = some (r', mM') := hE
    obtain ⟨g_18, hE⟩ := gi_el hE
    obtain ⟨mM_17, e_mM_17, hE⟩ := lt_el hE
    refine s_ia (ws1 := (W_M cy aM mM_17 inM)) hx hb hK hP hD hS 6 rfl g_18 (by rw [e_mM_17]; rfl) dX9_readOne_141 (fun H locs hP hD hS => ?_)
    refine lv_aload_n hx hb dX9_readOne_142 rfl (lv_at hl 0 rfl) ?_
    refine lv_dup hx hb dX9_readOne_143 rfl ?_
    refine va_get (D := D) (ci := 9) (v := .int (mM_17 11 0)) (C := RX9) (T := TX9) (N := 13) hx hb hts iX9 hown hK hP 0 rfl rfl 11 (by decide) f255 (fun _ h9 => h9) rfl dX9_readOne_144 ?_
    refine lv_iconst (v := 1) hx hb dX9_readOne_147 (by decide) ?_
    refine lv_iadd hx hb dX9_readOne_148 ?_
    obtain ⟨mM_19, e_mM_19, hE⟩ := lt_el hE
    refine s_pf (own := RX9) (C := RX9) (T := TX9) (N := 13) (ci := 9) (ws1 := (W_M cy aM mM_19 inM)) hx hb hts iX9 tyX9 tyX9_ok nmX9 hown hK hP hD hS 0 rfl rfl 11 (by decide) f255 rfl rfl rfl rfl (Nat.le_of_ble_eq_true rfl) (by rw [e_mM_19]; rfl) dX9_readOne_149 (fun H locs hP hD hS => ?_)
    refine lv_aload_n hx hb dX9_readOne_152 rfl (lv_at hl 0 rfl) ?_
    refine va_get (D := D) (ci := 9) (v := .int (mM_19 11 0)) (C := RX9) (T := TX9) (N := 13) hx hb hts iX9 hown hK hP 0 rfl rfl 11 (by decide) f255 (fun _ h9 => h9) rfl dX9_readOne_153 ?_
    refine lv_bipush (v := 6) hx hb dX9_readOne_156 (by decide) ?_
    refine lv_icmp_le (tgt := 165) hx hb dX9_readOne_158 (by decide) (fun c_20 => ?_) (fun c_20 => ?_)
    · replace hE := it_t hE c_20
      refine lv_iconst (v := 0) hx hb dX9_readOne_165 (by decide) ?_
      have hE := Option.some.inj hE
      obtain ⟨q0, q1⟩ := Prod.mk.inj hE
      exact ei hx hb hr hlocks hK hP hD hS q0 (by rw [q1]) dX9_readOne_166
    · replace hE := it_f hE c_20
      refine lv_iconst (v := 2) hx hb dX9_readOne_161 (by decide) ?_
      refine lv_goto (tgt := 166) hx hb dX9_readOne_162 (by decide) ?_
      have hE := Option.some.inj hE
      obtain ⟨q0, q1⟩ := Prod.mk.inj hE
      exact ei hx hb hr hlocks hK hP hD hS q0 (by rw [q1]) dX9_readOne_166
  have h53 : ∀ (x2 : Int32) (t0 : Int32) (mM : Mem), ∀  (H : Heap) (locs : List Loc) (ls : Array Slot), f_X9_readOne_b53 x2 t0 mM inM = some (r', mM') → va_P D vwCl (W_M cy aM mM inM) H → va_D A (W_M cy aM mM inM) → va_S A s.heap H locs → lv_has ls 3 [(0, .ref (aM 0)), (2, .int x2)] → W p l e rm_X9_readOne s m args below meth c H locs 0 0 (MQ below (QI D cy r' (W_M cy aM mM' inM) A) args s 0 0 A) (F0 m 53 ls [.int t0, .ref (aM 0)]) := by
    intro x2 t0 mM H locs ls hE hP hD hS hl
    replace hE : (lt' (wrI mM 9 (fun _ => t0)) fun mM_21 => lt' (wrI mM_21 10 (fun _ => (0 : Int32))) fun mM_22 => lt' (wrI mM_22 11 (fun _ => (0 : Int32))) fun mM_23 => lt' (wrI mM_23 12 (fun _ => (0 : Int32))) fun mM_24 => (if x2 = 0 then some ((1 : Int32), mM_24) else some ((0 : Int32), mM_24))) = some (r', mM') := hE
    obtain ⟨mM_21, e_mM_21, hE⟩ := lt_el hE
    refine s_pf (own := RX9) (C := RX9) (T := TX9) (N := 13) (ci := 9) (ws1 := (W_M cy aM mM_21 inM)) hx hb hts iX9 tyX9 tyX9_ok nmX9 hown hK hP hD hS 0 rfl rfl 9 (by decide) f249 rfl rfl rfl rfl (Nat.le_of_ble_eq_true rfl) (by rw [e_mM_21]; rfl) dX9_readOne_53 (fun H locs hP hD hS => ?_)
    refine lv_aload_n hx hb dX9_readOne_56 rfl (lv_at hl 0 rfl) ?_
    refine lv_iconst (v := 0) hx hb dX9_readOne_57 (by decide) ?_
    obtain ⟨mM_22, e_mM_22, hE⟩ := lt_el hE
    refine s_pf (own := RX9) (C := RX9) (T := TX9) (N := 13) (ci := 9) (ws1 := (W_M cy aM mM_22 inM)) hx hb hts iX9 tyX9 tyX9_ok nmX9 hown hK hP hD hS 0 rfl rfl 10 (by decide) f252 rfl rfl rfl rfl (Nat.le_of_ble_eq_true rfl) (by rw [e_mM_22]; rfl) dX9_readOne_58 (fun H locs hP hD hS => ?_)
    refine lv_aload_n hx hb dX9_readOne_61 rfl (lv_at hl 0 rfl) ?_
    refine lv_iconst (v := 0) hx hb dX9_readOne_62 (by decide) ?_
    obtain ⟨mM_23, e_mM_23, hE⟩ := lt_el hE
    refine s_pf (own := RX9) (C := RX9) (T := TX9) (N := 13) (ci := 9) (ws1 := (W_M cy aM mM_23 inM)) hx hb hts iX9 tyX9 tyX9_ok nmX9 hown hK hP hD hS 0 rfl rfl 11 (by decide) f255 rfl rfl rfl rfl (Nat.le_of_ble_eq_true rfl) (by rw [e_mM_23]; rfl) dX9_readOne_63 (fun H locs hP hD hS => ?_)
    refine lv_aload_n hx hb dX9_readOne_66 rfl (lv_at hl 0 rfl) ?_
    refine lv_iconst (v := 0) hx hb dX9_readOne_67 (by decide) ?_
    obtain ⟨mM_24, e_mM_24, hE⟩ := lt_el hE
    refine s_pf (own := RX9) (C := RX9) (T := TX9) (N := 13) (ci := 9) (ws1 := (W_M cy aM mM_24 inM)) hx hb hts iX9 tyX9 tyX9_ok nmX9 hown hK hP hD hS 0 rfl rfl 12 (by decide) f258 rfl rfl (by decide) (by decide) (Nat.le_of_ble_eq_true rfl) (by rw [e_mM_24]; rfl) dX9_readOne_68 (fun H locs hP hD hS => ?_)
    refine lv_iload_n hx hb dX9_readOne_71 rfl (lv_at hl 1 rfl) ?_
    refine lv_if_eq (tgt := 79) hx hb dX9_readOne_72 (by decide) (fun c_25 => ?_) (fun c_25 => ?_)
    · replace hE := it_t hE c_25
      refine lv_iconst (v := 1) hx hb dX9_readOne_79 (by decide) ?_
      have hE := Option.some.inj hE
      obtain ⟨q0, q1⟩ := Prod.mk.inj hE
      exact ei hx hb hr hlocks hK hP hD hS q0 (by rw [q1]) dX9_readOne_80
    · replace hE := it_f hE c_25
      refine lv_iconst (v := 0) hx hb dX9_readOne_75 (by decide) ?_
      refine lv_goto (tgt := 80) hx hb dX9_readOne_76 (by decide) ?_
      have hE := Option.some.inj hE
      obtain ⟨q0, q1⟩ := Prod.mk.inj hE
      exact ei hx hb hr hlocks hK hP hD hS q0 (by rw [q1]) dX9_readOne_80
  have h42 : ∀ (x1 : Int32) (t0 : Int32) (mM : Mem), ∀  (H : Heap) (locs : List Loc) (ls : Array Slot), f_X9_readOne_b42 x1 t0 mM inM = some (r', mM') → va_P D vwCl (W_M cy aM mM inM) H → va_D A (W_M cy aM mM inM) → va_S A s.heap H locs → lv_has ls 3 [(0, .ref (aM 0)), (1, .int x1)] → W p l e rm_X9_readOne s m args below meth c H locs 0 0 (MQ below (QI D cy r' (W_M cy aM mM' inM) A) args s 0 0 A) (F0 m 42 ls [.int t0]) := by
    intro x1 t0 mM H locs ls hE hP hD hS hl
    replace hE : ((if t0 = 0 then f_X9_readOne_b53 t0 (0 : Int32) mM inM else f_X9_readOne_b53 t0 x1 mM inM)) = some (r', mM') := hE
    refine lv_istore_n (lv' := [(2, .int t0), (0, .ref (aM 0)), (1, .int x1)]) hx hb dX9_readOne_42 rfl hl (by decide) rfl (fun ls hl => ?_)
    refine lv_aload_n hx hb dX9_readOne_43 rfl (lv_at hl 1 rfl) ?_
    refine lv_iload_n hx hb dX9_readOne_44 rfl (lv_at hl 0 rfl) ?_
    refine lv_if_eq (tgt := 52) hx hb dX9_readOne_45 (by decide) (fun c_26 => ?_) (fun c_26 => ?_)
    · replace hE := it_t hE c_26
      refine lv_iconst (v := 0) hx hb dX9_readOne_52 (by decide) ?_
      exact h53 t0 (0 : Int32) mM _ _ _ hE hP hD hS (lv_sub hl [1, 0] rfl)
    · replace hE := it_f hE c_26
      refine lv_iload_n hx hb dX9_readOne_48 rfl (lv_at hl 2 rfl) ?_
      refine lv_goto (tgt := 53) hx hb dX9_readOne_49 (by decide) ?_
      exact h53 t0 x1 mM _ _ _ hE hP hD hS (lv_sub hl [1, 0] rfl)
  have h37 : ∀ (x1 : Int32) (mM : Mem), ∀  (H : Heap) (locs : List Loc) (ls : Array Slot), f_X9_readOne_b37 x1 mM inM = some (r', mM') → va_P D vwCl (W_M cy aM mM inM) H → va_D A (W_M cy aM mM inM) → va_S A s.heap H locs → lv_has ls 3 [(0, .ref (aM 0)), (1, .int x1)] → W p l e rm_X9_readOne s m args below meth c H locs 0 0 (MQ below (QI D cy r' (W_M cy aM mM' inM) A) args s 0 0 A) (F0 m 37 ls []) := by
    intro x1 mM H locs ls hE hP hD hS hl
    replace hE : (f_X9_readOne_b42 x1 (1 : Int32) mM inM) = some (r', mM') := hE
    refine lv_iconst (v := 1) hx hb dX9_readOne_37 (by decide) ?_
    refine lv_goto (tgt := 42) hx hb dX9_readOne_38 (by decide) ?_
    exact h42 x1 (1 : Int32) mM _ _ _ hE hP hD hS (lv_sub hl [0, 1] rfl)
  unfold f_X9_readOne at hE
  refine lv_aload_n hx hb dX9_readOne_0 rfl (lv_at hl 0 rfl) ?_
  refine va_get (D := D) (ci := 9) (v := .int (imM 9 0)) (C := RX9) (T := TX9) (N := 13) hx hb hts iX9 hown hK hP 0 rfl rfl 9 (by decide) f249 (fun _ h9 => h9) rfl dX9_readOne_1 ?_
  refine lv_if_ne (tgt := 81) hx hb dX9_readOne_4 (by decide) (fun c_27 => ?_) (fun c_27 => ?_)
  · replace hE := it_f hE c_27
    refine lv_iload_n hx hb dX9_readOne_81 rfl (lv_at hl 1 rfl) ?_
    refine lv_i2l hx hb dX9_readOne_82 rfl ?_
    refine lv_ldc2 hx hb hown k181 dX9_readOne_83 ?_
    refine lv_ldc2 hx hb hown k262 dX9_readOne_86 ?_
    obtain ⟨r_28, hc_29, hE⟩ := bd1_el hE
    refine ki (X := []) (Y := (W_M cy aM imM inM)) (ws1 := (W_M cy aM imM inM)) (rS (X := []) (Y := (W_M cy aM imM inM)) (As := [.long (x1.toInt64), .long (48 : Int64), .long (57 : Int64)]) (rest := []) hC (c_X9_in l D cy (x1.toInt64) (48 : Int64) (57 : Int64) r_28 hc_29) (cwS 3 hts gX9_readOne_X9_in rfl rfl rfl cd_X9_in ⟨Nat.le_of_ble_eq_true rfl, Nat.le_of_ble_eq_true rfl⟩) hK hN hP hD hS hA rfl rfl hl.1 rfl (lv_room (Nat.le_of_ble_eq_true rfl)) dX9_readOne_89 ⟨Nat.le_of_ble_eq_true rfl, Nat.le_of_ble_eq_true rfl⟩) hP hD hS hA rfl rfl rfl (fun H locs hP hD hS => ?_)
    refine lv_if_eq (tgt := 167) hx hb dX9_readOne_92 (by decide) (fun c_30 => ?_) (fun c_30 => ?_)
    · replace hE := it_t hE c_30
      exact h167 x1 imM _ _ _ hE hP hD hS (lv_sub hl [0, 1] rfl)
    · replace hE := it_f hE c_30
      refine lv_aload_n hx hb dX9_readOne_95 rfl (lv_at hl 0 rfl) ?_
      refine va_get (D := D) (ci := 9) (v := .int (imM 12 0)) (C := RX9) (T := TX9) (N := 13) hx hb hts iX9 hown hK hP 0 rfl rfl 12 (by decide) f258 (fun _ h9 => h9) rfl dX9_readOne_96 ?_
      refine lv_if_ne (tgt := 167) hx hb dX9_readOne_99 (by decide) (fun c_31 => ?_) (fun c_31 => ?_)
      · replace hE := it_f hE c_31
        exact h167 x1 imM _ _ _ hE hP hD hS (lv_sub hl [0, 1] rfl)
      · replace hE := it_t hE c_31
        refine lv_aload_n hx hb dX9_readOne_102 rfl (lv_at hl 0 rfl) ?_
        refine va_get (D := D) (ci := 9) (v := .ref (aM 6)) (C := RX9) (T := TX9) (N := 13) hx hb hts iX9 hown hK hP 0 rfl rfl 5 (by decide) f26 (fun _ h9 => h9) rfl dX9_readOne_103 ?_
        refine lv_aload_n hx hb dX9_readOne_106 rfl (lv_at hl 0 rfl) ?_
        refine va_get (D := D) (ci := 9) (v := .int (imM 10 0)) (C := RX9) (T := TX9) (N := 13) hx hb hts iX9 hown hK hP 0 rfl rfl 10 (by decide) f252 (fun _ h9 => h9) rfl dX9_readOne_107 ?_
        refine lv_aload_n hx hb dX9_readOne_110 rfl (lv_at hl 0 rfl) ?_
        refine va_get (D := D) (ci := 9) (v := .int (imM 11 0)) (C := RX9) (T := TX9) (N := 13) hx hb hts iX9 hown hK hP 0 rfl rfl 11 (by decide) f255 (fun _ h9 => h9) rfl dX9_readOne_111 ?_
        refine lv_if_ne (tgt := 124) hx hb dX9_readOne_114 (by decide) (fun c_32 => ?_) (fun c_32 => ?_)
        · replace hE := it_f hE c_32
          refine lv_bipush (v := 10) hx hb dX9_readOne_124 (by decide) ?_
          refine lv_aload_n hx hb dX9_readOne_126 rfl (lv_at hl 0 rfl) ?_
          refine va_get (D := D) (ci := 9) (v := .ref (aM 6)) (C := RX9) (T := TX9) (N := 13) hx hb hts iX9 hown hK hP 0 rfl rfl 5 (by decide) f26 (fun _ h9 => h9) rfl dX9_readOne_127 ?_
          refine lv_aload_n hx hb dX9_readOne_130 rfl (lv_at hl 0 rfl) ?_
          refine va_get (D := D) (ci := 9) (v := .int (imM 10 0)) (C := RX9) (T := TX9) (N := 13) hx hb hts iX9 hown hK hP 0 rfl rfl 10 (by decide) f252 (fun _ h9 => h9) rfl dX9_readOne_131 ?_
          obtain ⟨g_33, hE⟩ := gi_el hE
          refine va_iald hx hb hK hP 6 0 rfl rfl g_33 dX9_readOne_134 ?_
          refine lv_imul hx hb dX9_readOne_135 ?_
          refine lv_iload_n hx hb dX9_readOne_136 rfl (lv_at hl 1 rfl) ?_
          refine lv_iadd hx hb dX9_readOne_137 ?_
          refine lv_bipush (v := 48) hx hb dX9_readOne_138 (by decide) ?_
          refine lv_isub hx hb dX9_readOne_140 ?_
          exact h141 ((((10 : Int32) * (imM 5 (imM 10 0).toNatClampNeg)) + x1) - (48 : Int32)) (imM 10 0) imM _ _ _ hE hP hD hS (lv_sub hl [0] rfl)
        · replace hE := it_t hE c_32
          refine lv_iload_n hx hb dX9_readOne_117 rfl (lv_at hl 1 rfl) ?_
          refine lv_bipush (v := 48) hx hb dX9_readOne_118 (by decide) ?_
          refine lv_isub hx hb dX9_readOne_120 ?_
          refine lv_goto (tgt := 141) hx hb dX9_readOne_121 (by decide) ?_
          exact h141 (x1 - (48 : Int32)) (imM 10 0) imM _ _ _ hE hP hD hS (lv_sub hl [0] rfl)
  · replace hE := it_t hE c_27
    refine lv_iload_n hx hb dX9_readOne_7 rfl (lv_at hl 1 rfl) ?_
    refine lv_bipush (v := 104) hx hb dX9_readOne_8 (by decide) ?_
    refine lv_icmp_eq (tgt := 37) hx hb dX9_readOne_10 (by decide) (fun c_34 => ?_) (fun c_34 => ?_)
    · replace hE := it_t hE c_34
      exact h37 x1 imM _ _ _ hE hP hD hS (lv_sub hl [0, 1] rfl)
    · replace hE := it_f hE c_34
      refine lv_iload_n hx hb dX9_readOne_13 rfl (lv_at hl 1 rfl) ?_
      refine lv_bipush (v := 111) hx hb dX9_readOne_14 (by decide) ?_
      refine lv_icmp_eq (tgt := 37) hx hb dX9_readOne_16 (by decide) (fun c_35 => ?_) (fun c_35 => ?_)
      · replace hE := it_t hE c_35
        exact h37 x1 imM _ _ _ hE hP hD hS (lv_sub hl [0, 1] rfl)
      · replace hE := it_f hE c_35
        refine lv_iload_n hx hb dX9_readOne_19 rfl (lv_at hl 1 rfl) ?_
        refine lv_bipush (v := 99) hx hb dX9_readOne_20 (by decide) ?_
        refine lv_icmp_eq (tgt := 37) hx hb dX9_readOne_22 (by decide) (fun c_36 => ?_) (fun c_36 => ?_)
        · replace hE := it_t hE c_36
          exact h37 x1 imM _ _ _ hE hP hD hS (lv_sub hl [0, 1] rfl)
        · replace hE := it_f hE c_36
          refine lv_iload_n hx hb dX9_readOne_25 rfl (lv_at hl 1 rfl) ?_
          refine lv_bipush (v := 112) hx hb dX9_readOne_26 (by decide) ?_
          refine lv_icmp_eq (tgt := 37) hx hb dX9_readOne_28 (by decide) (fun c_37 => ?_) (fun c_37 => ?_)
          · replace hE := it_t hE c_37
            exact h37 x1 imM _ _ _ hE hP hD hS (lv_sub hl [0, 1] rfl)
          · replace hE := it_f hE c_37
            refine lv_iload_n hx hb dX9_readOne_31 rfl (lv_at hl 1 rfl) ?_
            refine lv_bipush (v := 109) hx hb dX9_readOne_32 (by decide) ?_
            refine lv_icmp_ne (tgt := 41) hx hb dX9_readOne_34 (by decide) (fun c_38 => ?_) (fun c_38 => ?_)
            · replace hE := it_f hE c_38
              refine lv_iconst (v := 0) hx hb dX9_readOne_41 (by decide) ?_
              exact h42 x1 (0 : Int32) imM _ _ _ hE hP hD hS (lv_sub hl [0, 1] rfl)
            · replace hE := it_t hE c_38
              exact h37 x1 imM _ _ _ hE hP hD hS (lv_sub hl [0, 1] rfl)
abbrev rm_X9_ends : Room := { frames := 1, cells := 0, slots := 0, locals := 20 }
set_option maxHeartbeats 40000000 in
set_option maxRecDepth 100000 in
theorem c_X9_ends (l : Launch) (D : va_G) (cy : Nat → Nat) (aM : Nat → Nat) (imM : Mem) (inM : MemL) (r' : Int32) (hE : f_X9_ends imM inM = some r') : CI l yX9_ends wsX9_ends rm_X9_ends D cy [.ref (aM 0)] (W_M cy aM imM inM) 0 0 r' (W_M cy aM imM inM) := by
  refine CQ_of (cc := cX9_ends) (maxL := 1) (ret := (some .boolean)) (by decide) rfl (Nat.le_of_ble_eq_true rfl) (fun p e s m args below meth c A ls hx hb hr hml hlocks hnm hown hts hA hK hN hP hD hS hl => ?_)
  have hown : s.vm.findClass RX9 = some m.cls := hown
  have hl : lv_has ls 1 [(0, .ref (aM 0))] := hl
  have hC : CallFix p m c cX9_ends 1 s args wsX9_ends RX9 := ⟨hx, hb, hml, hown, hts⟩
  have f249 : (Cond.fieldLink RX9 249 "IcePlantModel" "word" "I").before args s = true := hts _ (mC qf_X9_249)
  have f252 : (Cond.fieldLink RX9 252 "IcePlantModel" "at" "I").before args s = true := hts _ (mC qf_X9_252)
  have f255 : (Cond.fieldLink RX9 255 "IcePlantModel" "digits" "I").before args s = true := hts _ (mC qf_X9_255)
  have iX9 : ∀ w ∈ wsX90, w ∈ wsX9_ends := fun w h => mC (iA_X9 w h)
  unfold f_X9_ends at hE
  refine lv_aload_n hx hb dX9_ends_0 rfl (lv_at hl 0 rfl) ?_
  refine va_get (D := D) (ci := 9) (v := .int (imM 9 0)) (C := RX9) (T := TX9) (N := 13) hx hb hts iX9 hown hK hP 0 rfl rfl 9 (by decide) f249 (fun _ h9 => h9) rfl dX9_ends_1 ?_
  refine lv_if_le (tgt := 31) hx hb dX9_ends_4 (by decide) (fun c_1 => ?_) (fun c_1 => ?_)
  · replace hE := it_t hE c_1
    refine lv_iconst (v := 0) hx hb dX9_ends_31 (by decide) ?_
    have hE := Option.some.inj hE
    exact ez hx hb hr (by decide) hlocks hK hP hD hS hE rfl dX9_ends_32
  · replace hE := it_f hE c_1
    refine lv_aload_n hx hb dX9_ends_7 rfl (lv_at hl 0 rfl) ?_
    refine va_get (D := D) (ci := 9) (v := .int (imM 11 0)) (C := RX9) (T := TX9) (N := 13) hx hb hts iX9 hown hK hP 0 rfl rfl 11 (by decide) f255 (fun _ h9 => h9) rfl dX9_ends_8 ?_
    refine lv_if_le (tgt := 31) hx hb dX9_ends_11 (by decide) (fun c_2 => ?_) (fun c_2 => ?_)
    · replace hE := it_t hE c_2
      refine lv_iconst (v := 0) hx hb dX9_ends_31 (by decide) ?_
      have hE := Option.some.inj hE
      exact ez hx hb hr (by decide) hlocks hK hP hD hS hE rfl dX9_ends_32
    · replace hE := it_f hE c_2
      refine lv_aload_n hx hb dX9_ends_14 rfl (lv_at hl 0 rfl) ?_
      refine va_get (D := D) (ci := 9) (v := .int (imM 10 0)) (C := RX9) (T := TX9) (N := 13) hx hb hts iX9 hown hK hP 0 rfl rfl 10 (by decide) f252 (fun _ h9 => h9) rfl dX9_ends_15 ?_
      refine lv_iconst (v := 1) hx hb dX9_ends_18 (by decide) ?_
      refine lv_iadd hx hb dX9_ends_19 ?_
      refine lv_aload_n hx hb dX9_ends_20 rfl (lv_at hl 0 rfl) ?_
      obtain ⟨r_3, hc_4, hE⟩ := bd1_el hE
      refine ki (X := []) (Y := []) (ws1 := (W_M cy aM imM inM)) (rV (X := []) (Y := []) (As := []) (rest := [.int ((imM 10 0) + (1 : Int32))]) hC (c_X9_needs l D cy aM imM inM r_3 hc_4) (cwV 0 hts gX9_ends_X9_needs rfl rfl rfl cd_X9_needs ⟨Nat.le_of_ble_eq_true rfl, Nat.le_of_ble_eq_true rfl⟩) hK hN hP hD hS hA rfl 0 9 rfl rfl rfl hl.1 rfl (lv_room (Nat.le_of_ble_eq_true rfl)) dX9_ends_21 ⟨Nat.le_of_ble_eq_true rfl, Nat.le_of_ble_eq_true rfl⟩) hP hD hS hA rfl rfl rfl (fun H locs hP hD hS => ?_)
      refine lv_icmp_ne (tgt := 31) hx hb dX9_ends_24 (by decide) (fun c_5 => ?_) (fun c_5 => ?_)
      · replace hE := it_f hE c_5
        refine lv_iconst (v := 0) hx hb dX9_ends_31 (by decide) ?_
        have hE := Option.some.inj hE
        exact ez hx hb hr (by decide) hlocks hK hP hD hS hE rfl dX9_ends_32
      · replace hE := it_t hE c_5
        refine lv_iconst (v := 1) hx hb dX9_ends_27 (by decide) ?_
        refine lv_goto (tgt := 32) hx hb dX9_ends_28 (by decide) ?_
        have hE := Option.some.inj hE
        exact ez hx hb hr (by decide) hlocks hK hP hD hS hE rfl dX9_ends_32
abbrev rm_X9_error : Room := { frames := 2, cells := 0, slots := 0, locals := 47 }
set_option maxHeartbeats 40000000 in
set_option maxRecDepth 100000 in
theorem c_X9_error (l : Launch) (D : va_G) (cy : Nat → Nat) (aM : Nat → Nat) (imM : Mem) (inM : MemL) (r' : Int32) (mM' : Mem) (hE : f_X9_error imM inM = some (r', mM')) : CI l yX9_error wsX9_error rm_X9_error D cy [.ref (aM 0)] (W_M cy aM imM inM) 0 0 r' (W_M cy aM mM' inM) := by
  refine CQ_of (cc := cX9_error) (maxL := 3) (ret := (some .int)) (by decide) rfl (Nat.le_of_ble_eq_true rfl) (fun p e s m args below meth c A ls hx hb hr hml hlocks hnm hown hts hA hK hN hP hD hS hl => ?_)
  have hown : s.vm.findClass RX9 = some m.cls := hown
  have hl : lv_has ls 3 [(0, .ref (aM 0))] := hl
  have hC : CallFix p m c cX9_error 3 s args wsX9_error RX9 := ⟨hx, hb, hml, hown, hts⟩
  have f23 : (Cond.fieldLink RX9 23 "IcePlantModel" "text" "[I").before args s = true := hts _ (mC qf_X9_23)
  have f246 : (Cond.fieldLink RX9 246 "IcePlantModel" "length" "I").before args s = true := hts _ (mC qf_X9_246)
  have f249 : (Cond.fieldLink RX9 249 "IcePlantModel" "word" "I").before args s = true := hts _ (mC qf_X9_249)
  have iX9 : ∀ w ∈ wsX90, w ∈ wsX9_error := fun w h => mC (iA_X9 w h)
  have h79 : ∀ (mM : Mem), ∀  (H : Heap) (locs : List Loc) (ls : Array Slot), f_X9_error_b79 mM inM = some (r', mM') → va_P D vwCl (W_M cy aM mM inM) H → va_D A (W_M cy aM mM inM) → va_S A s.heap H locs → lv_has ls 3 [] → W p l e rm_X9_error s m args below meth c H locs 0 0 (MQ below (QI D cy r' (W_M cy aM mM' inM) A) args s 0 0 A) (F0 m 79 ls []) := by
    intro mM H locs ls hE hP hD hS hl
    replace hE : (some ((-1 : Int32), mM)) = some (r', mM') := hE
    refine lv_iconst (v := (-1)) hx hb dX9_error_79 (by decide) ?_
    refine lv_goto (tgt := 91) hx hb dX9_error_80 (by decide) ?_
    have hE := Option.some.inj hE
    obtain ⟨q0, q1⟩ := Prod.mk.inj hE
    exact ei hx hb hr hlocks hK hP hD hS q0 (by rw [q1]) dX9_error_91
  have h56 : ∀ (x1 : Int32) (t0 : Int32) (mM : Mem), ∀ (k7 : (Int32 → Mem → Option (Int32 × Mem))), (∀ (x1 : Int32) (mM : Mem) (H : Heap) (locs : List Loc) (ls : Array Slot), k7 x1 mM = some (r', mM') → va_P D vwCl (W_M cy aM mM inM) H → va_D A (W_M cy aM mM inM) → va_S A s.heap H locs → lv_has ls 3 [(0, .ref (aM 0)), (1, .int x1)] → W p l e rm_X9_error s m args below meth c H locs 0 0 (MQ below (QI D cy r' (W_M cy aM mM' inM) A) args s 0 0 A) (F0 m 7 ls [])) → ∀  (H : Heap) (locs : List Loc) (ls : Array Slot), f_X9_error_b56 k7 x1 t0 mM inM = some (r', mM') → va_P D vwCl (W_M cy aM mM inM) H → va_D A (W_M cy aM mM inM) → va_S A s.heap H locs → lv_has ls 3 [(0, .ref (aM 0)), (1, .int x1)] → W p l e rm_X9_error s m args below meth c H locs 0 0 (MQ below (QI D cy r' (W_M cy aM mM' inM) A) args s 0 0 A) (F0 m 56 ls [.int t0, .ref (aM 0)]) := by
    intro x1 t0 mM k7 hk7 H locs ls hE hP hD hS hl
    replace hE : (lt' (wrI mM 9 (fun _ => t0)) fun mM_1 => lt' (x1 + (1 : Int32)) fun x1_2 => k7 x1_2 mM_1) = some (r', mM') := hE
    obtain ⟨mM_1, e_mM_1, hE⟩ := lt_el hE
    refine s_pf (own := RX9) (C := RX9) (T := TX9) (N := 13) (ci := 9) (ws1 := (W_M cy aM mM_1 inM)) hx hb hts iX9 tyX9 tyX9_ok nmX9 hown hK hP hD hS 0 rfl rfl 9 (by decide) f249 rfl rfl rfl rfl (Nat.le_of_ble_eq_true rfl) (by rw [e_mM_1]; rfl) dX9_error_56 (fun H locs hP hD hS => ?_)
    obtain ⟨x1_2, e_x1_2, hE⟩ := lt_el hE
    refine lv_iinc (v := x1_2) (lv' := [(1, .int x1_2), (0, .ref (aM 0))]) hx hb dX9_error_59 hl (k := 1) rfl (by rw [e_x1_2]; rfl) (by decide) rfl (fun ls hl => ?_)
    refine lv_goto (tgt := 7) hx hb dX9_error_62 (by decide) ?_
    exact hk7 x1_2 mM_1 _ _ _ hE hP hD hS (lv_sub hl [1, 0] rfl)
  have h7 : ∀ (n : Nat), ∀ (x1 : Int32) (mM : Mem) (H : Heap) (locs : List Loc) (ls : Array Slot), f_X9_error_L7 inM n x1 mM = some (r', mM') → va_P D vwCl (W_M cy aM mM inM) H → va_D A (W_M cy aM mM inM) → va_S A s.heap H locs → lv_has ls 3 [(0, .ref (aM 0)), (1, .int x1)] → W p l e rm_X9_error s m args below meth c H locs 0 0 (MQ below (QI D cy r' (W_M cy aM mM' inM) A) args s 0 0 A) (F0 m 7 ls []) := by
    intro n
    induction n with
    | zero => intro x1 mM H locs ls hE; exact absurd hE (fun h9 => nomatch h9)
    | succ n ih =>
      intro x1 mM H locs ls hE hP hD hS hl
      replace hE : ((if (mM 7 0) ≤ x1 then (if (mM 7 0) = 0 then f_X9_error_b79 mM inM else bd1 (f_X9_ends mM inM) fun r_5 => (if r_5 = 0 then some ((((4 : Int32) * (mM 7 0)) + (3 : Int32)), mM) else f_X9_error_b79 mM inM)) else gi x1 120 (bd2 (f_X9_readOne (mM 4 x1.toNatClampNeg) mM inM) fun r_9 mM_10 => (if r_9 ≤ 0 then gi x1 120 ((if (mM_10 4 x1.toNatClampNeg) = (59 : Int32) then f_X9_error_b56 (f_X9_error_L7 inM n) x1 (0 : Int32) mM_10 inM else f_X9_error_b56 (f_X9_error_L7 inM n) x1 (mM_10 9 0) mM_10 inM)) else some ((((4 : Int32) * x1) + r_9), mM_10))))) = some (r', mM') := hE
      refine lv_iload_n hx hb dX9_error_7 rfl (lv_at hl 1 rfl) ?_
      refine lv_aload_n hx hb dX9_error_8 rfl (lv_at hl 0 rfl) ?_
      refine va_get (D := D) (ci := 9) (v := .int (mM 7 0)) (C := RX9) (T := TX9) (N := 13) hx hb hts iX9 hown hK hP 0 rfl rfl 7 (by decide) f246 (fun _ h9 => h9) rfl dX9_error_9 ?_
      refine lv_icmp_ge (tgt := 65) hx hb dX9_error_12 (by decide) (fun c_3 => ?_) (fun c_3 => ?_)
      · replace hE := it_t hE c_3
        refine lv_aload_n hx hb dX9_error_65 rfl (lv_at hl 0 rfl) ?_
        refine va_get (D := D) (ci := 9) (v := .int (mM 7 0)) (C := RX9) (T := TX9) (N := 13) hx hb hts iX9 hown hK hP 0 rfl rfl 7 (by decide) f246 (fun _ h9 => h9) rfl dX9_error_66 ?_
        refine lv_if_eq (tgt := 79) hx hb dX9_error_69 (by decide) (fun c_4 => ?_) (fun c_4 => ?_)
        · replace hE := it_t hE c_4
          exact h79 mM _ _ _ hE hP hD hS (lv_sub hl [] rfl)
        · replace hE := it_f hE c_4
          refine lv_aload_n hx hb dX9_error_72 rfl (lv_at hl 0 rfl) ?_
          obtain ⟨r_5, hc_6, hE⟩ := bd1_el hE
          refine ki (X := []) (Y := []) (ws1 := (W_M cy aM mM inM)) (rV (X := []) (Y := []) (As := []) (rest := []) hC (c_X9_ends l D cy aM mM inM r_5 hc_6) (cwV 0 hts gX9_error_X9_ends rfl rfl rfl cd_X9_ends ⟨Nat.le_of_ble_eq_true rfl, Nat.le_of_ble_eq_true rfl⟩) hK hN hP hD hS hA rfl 0 9 rfl rfl rfl hl.1 rfl (lv_room (Nat.le_of_ble_eq_true rfl)) dX9_error_73 ⟨Nat.le_of_ble_eq_true rfl, Nat.le_of_ble_eq_true rfl⟩) hP hD hS hA rfl rfl rfl (fun H locs hP hD hS => ?_)
          refine lv_if_eq (tgt := 83) hx hb dX9_error_76 (by decide) (fun c_7 => ?_) (fun c_7 => ?_)
          · replace hE := it_t hE c_7
            refine lv_iconst (v := 4) hx hb dX9_error_83 (by decide) ?_
            refine lv_aload_n hx hb dX9_error_84 rfl (lv_at hl 0 rfl) ?_
            refine va_get (D := D) (ci := 9) (v := .int (mM 7 0)) (C := RX9) (T := TX9) (N := 13) hx hb hts iX9 hown hK hP 0 rfl rfl 7 (by decide) f246 (fun _ h9 => h9) rfl dX9_error_85 ?_
            refine lv_imul hx hb dX9_error_88 ?_
            refine lv_iconst (v := 3) hx hb dX9_error_89 (by decide) ?_
            refine lv_iadd hx hb dX9_error_90 ?_
            have hE := Option.some.inj hE
            obtain ⟨q0, q1⟩ := Prod.mk.inj hE
            exact ei hx hb hr hlocks hK hP hD hS q0 (by rw [q1]) dX9_error_91
          · replace hE := it_f hE c_7
            exact h79 mM _ _ _ hE hP hD hS (lv_sub hl [] rfl)
      · replace hE := it_f hE c_3
        refine lv_aload_n hx hb dX9_error_15 rfl (lv_at hl 0 rfl) ?_
        refine lv_aload_n hx hb dX9_error_16 rfl (lv_at hl 0 rfl) ?_
        refine va_get (D := D) (ci := 9) (v := .ref (aM 5)) (C := RX9) (T := TX9) (N := 13) hx hb hts iX9 hown hK hP 0 rfl rfl 4 (by decide) f23 (fun _ h9 => h9) rfl dX9_error_17 ?_
        refine lv_iload_n hx hb dX9_error_20 rfl (lv_at hl 1 rfl) ?_
        obtain ⟨g_8, hE⟩ := gi_el hE
        refine va_iald hx hb hK hP 5 0 rfl rfl g_8 dX9_error_21 ?_
        obtain ⟨r_9, mM_10, hc_11, hE⟩ := bd2_el hE
        refine ki (X := []) (Y := []) (ws1 := (W_M cy aM mM_10 inM)) (rV (X := []) (Y := []) (As := [.int (mM 4 x1.toNatClampNeg)]) (rest := []) hC (c_X9_readOne l D cy aM (mM 4 x1.toNatClampNeg) mM inM r_9 mM_10 hc_11) (cwV 1 hts gX9_error_X9_readOne rfl rfl rfl cd_X9_readOne ⟨Nat.le_of_ble_eq_true rfl, Nat.le_of_ble_eq_true rfl⟩) hK hN hP hD hS hA rfl 0 9 rfl rfl rfl hl.1 rfl (lv_room (Nat.le_of_ble_eq_true rfl)) dX9_error_22 ⟨Nat.le_of_ble_eq_true rfl, Nat.le_of_ble_eq_true rfl⟩) hP hD hS hA rfl rfl rfl (fun H locs hP hD hS => ?_)
        refine lv_istore_n (lv' := [(2, .int r_9), (0, .ref (aM 0)), (1, .int x1)]) hx hb dX9_error_25 rfl hl (by decide) rfl (fun ls hl => ?_)
        refine lv_iload_n hx hb dX9_error_26 rfl (lv_at hl 0 rfl) ?_
        refine lv_if_le (tgt := 36) hx hb dX9_error_27 (by decide) (fun c_12 => ?_) (fun c_12 => ?_)
        · replace hE := it_t hE c_12
          refine lv_aload_n hx hb dX9_error_36 rfl (lv_at hl 1 rfl) ?_
          refine lv_aload_n hx hb dX9_error_37 rfl (lv_at hl 1 rfl) ?_
          refine va_get (D := D) (ci := 9) (v := .ref (aM 5)) (C := RX9) (T := TX9) (N := 13) hx hb hts iX9 hown hK hP 0 rfl rfl 4 (by decide) f23 (fun _ h9 => h9) rfl dX9_error_38 ?_
          refine lv_iload_n hx hb dX9_error_41 rfl (lv_at hl 2 rfl) ?_
          obtain ⟨g_13, hE⟩ := gi_el hE
          refine va_iald hx hb hK hP 5 0 rfl rfl g_13 dX9_error_42 ?_
          refine lv_bipush (v := 59) hx hb dX9_error_43 (by decide) ?_
          refine lv_icmp_ne (tgt := 52) hx hb dX9_error_45 (by decide) (fun c_14 => ?_) (fun c_14 => ?_)
          · replace hE := it_f hE c_14
            refine lv_aload_n hx hb dX9_error_52 rfl (lv_at hl 1 rfl) ?_
            refine va_get (D := D) (ci := 9) (v := .int (mM_10 9 0)) (C := RX9) (T := TX9) (N := 13) hx hb hts iX9 hown hK hP 0 rfl rfl 9 (by decide) f249 (fun _ h9 => h9) rfl dX9_error_53 ?_
            exact h56 x1 (mM_10 9 0) mM_10 (f_X9_error_L7 inM n) ih _ _ _ hE hP hD hS (lv_sub hl [1, 2] rfl)
          · replace hE := it_t hE c_14
            refine lv_iconst (v := 0) hx hb dX9_error_48 (by decide) ?_
            refine lv_goto (tgt := 56) hx hb dX9_error_49 (by decide) ?_
            exact h56 x1 (0 : Int32) mM_10 (f_X9_error_L7 inM n) ih _ _ _ hE hP hD hS (lv_sub hl [1, 2] rfl)
        · replace hE := it_f hE c_12
          refine lv_iconst (v := 4) hx hb dX9_error_30 (by decide) ?_
          refine lv_iload_n hx hb dX9_error_31 rfl (lv_at hl 2 rfl) ?_
          refine lv_imul hx hb dX9_error_32 ?_
          refine lv_iload_n hx hb dX9_error_33 rfl (lv_at hl 0 rfl) ?_
          refine lv_iadd hx hb dX9_error_34 ?_
          have hE := Option.some.inj hE
          obtain ⟨q0, q1⟩ := Prod.mk.inj hE
          exact ei hx hb hr hlocks hK hP hD hS q0 (by rw [q1]) dX9_error_35
  unfold f_X9_error at hE
  refine lv_aload_n hx hb dX9_error_0 rfl (lv_at hl 0 rfl) ?_
  refine lv_iconst (v := 0) hx hb dX9_error_1 (by decide) ?_
  obtain ⟨mM_15, e_mM_15, hE⟩ := lt_el hE
  refine s_pf (own := RX9) (C := RX9) (T := TX9) (N := 13) (ci := 9) (ws1 := (W_M cy aM mM_15 inM)) hx hb hts iX9 tyX9 tyX9_ok nmX9 hown hK hP hD hS 0 rfl rfl 9 (by decide) f249 rfl rfl rfl rfl (Nat.le_of_ble_eq_true rfl) (by rw [e_mM_15]; rfl) dX9_error_2 (fun H locs hP hD hS => ?_)
  refine lv_iconst (v := 0) hx hb dX9_error_5 (by decide) ?_
  refine lv_istore_n (lv' := [(1, .int (0 : Int32)), (0, .ref (aM 0))]) hx hb dX9_error_6 rfl hl (by decide) rfl (fun ls hl => ?_)
  exact h7 fuel (0 : Int32) mM_15 _ _ _ hE hP hD hS (lv_sub hl [1, 0] rfl)
abbrev rm_X9_errorPosition : Room := { frames := 3, cells := 0, slots := 0, locals := 69 }
set_option maxHeartbeats 40000000 in
set_option maxRecDepth 100000 in
theorem c_X9_errorPosition (l : Launch) (D : va_G) (cy : Nat → Nat) (aM : Nat → Nat) (imM : Mem) (inM : MemL) (r' : Int32) (mM' : Mem) (hE : f_X9_errorPosition imM inM = some (r', mM')) : CI l yX9_errorPosition wsX9_errorPosition rm_X9_errorPosition D cy [.ref (aM 0)] (W_M cy aM imM inM) 0 0 r' (W_M cy aM mM' inM) := by
  refine CQ_of (cc := cX9_errorPosition) (maxL := 2) (ret := (some .int)) (by decide) rfl (Nat.le_of_ble_eq_true rfl) (fun p e s m args below meth c A ls hx hb hr hml hlocks hnm hown hts hA hK hN hP hD hS hl => ?_)
  have hown : s.vm.findClass RX9 = some m.cls := hown
  have hl : lv_has ls 2 [(0, .ref (aM 0))] := hl
  have hC : CallFix p m c cX9_errorPosition 2 s args wsX9_errorPosition RX9 := ⟨hx, hb, hml, hown, hts⟩
  have f43 : (Cond.fieldLink RX9 43 "IcePlantModel" "thrown" "I").before args s = true := hts _ (mC qf_X9_43)
  have iX9 : ∀ w ∈ wsX90, w ∈ wsX9_errorPosition := fun w h => mC (iA_X9 w h)
  unfold f_X9_errorPosition at hE
  refine lv_aload_n hx hb dX9_errorPosition_0 rfl (lv_at hl 0 rfl) ?_
  refine lv_iconst (v := 0) hx hb dX9_errorPosition_1 (by decide) ?_
  obtain ⟨mM_1, e_mM_1, hE⟩ := lt_el hE
  refine s_pf (own := RX9) (C := RX9) (T := TX9) (N := 13) (ci := 9) (ws1 := (W_M cy aM mM_1 inM)) hx hb hts iX9 tyX9 tyX9_ok nmX9 hown hK hP hD hS 0 rfl rfl 8 (by decide) f43 rfl rfl rfl rfl (Nat.le_of_ble_eq_true rfl) (by rw [e_mM_1]; rfl) dX9_errorPosition_2 (fun H locs hP hD hS => ?_)
  refine lv_aload_n hx hb dX9_errorPosition_5 rfl (lv_at hl 0 rfl) ?_
  obtain ⟨r_2, mM_3, hc_4, hE⟩ := bd2_el hE
  refine ki (X := []) (Y := []) (ws1 := (W_M cy aM mM_3 inM)) (rV (X := []) (Y := []) (As := []) (rest := []) hC (c_X9_error l D cy aM mM_1 inM r_2 mM_3 hc_4) (cwV 0 hts gX9_errorPosition_X9_error rfl rfl rfl cd_X9_error ⟨Nat.le_of_ble_eq_true rfl, Nat.le_of_ble_eq_true rfl⟩) hK hN hP hD hS hA rfl 0 9 rfl rfl rfl hl.1 rfl (lv_room (Nat.le_of_ble_eq_true rfl)) dX9_errorPosition_6 ⟨Nat.le_of_ble_eq_true rfl, Nat.le_of_ble_eq_true rfl⟩) hP hD hS hA rfl rfl rfl (fun H locs hP hD hS => ?_)
  refine lv_istore_n (lv' := [(1, .int r_2), (0, .ref (aM 0))]) hx hb dX9_errorPosition_9 rfl hl (by decide) rfl (fun ls hl => ?_)
  refine lv_iload_n hx hb dX9_errorPosition_10 rfl (lv_at hl 0 rfl) ?_
  refine lv_iconst (v := (-1)) hx hb dX9_errorPosition_11 (by decide) ?_
  refine lv_icmp_ne (tgt := 19) hx hb dX9_errorPosition_12 (by decide) (fun c_5 => ?_) (fun c_5 => ?_)
  · replace hE := it_f hE c_5
    refine lv_iload_n hx hb dX9_errorPosition_19 rfl (lv_at hl 0 rfl) ?_
    refine lv_iconst (v := 4) hx hb dX9_errorPosition_20 (by decide) ?_
    refine lv_idiv hx hb dX9_errorPosition_21 (by decide) ?_
    have hE := Option.some.inj hE
    obtain ⟨q0, q1⟩ := Prod.mk.inj hE
    exact ei hx hb hr hlocks hK hP hD hS q0 (by rw [q1]) dX9_errorPosition_22
  · replace hE := it_t hE c_5
    refine lv_iconst (v := (-1)) hx hb dX9_errorPosition_15 (by decide) ?_
    refine lv_goto (tgt := 22) hx hb dX9_errorPosition_16 (by decide) ?_
    have hE := Option.some.inj hE
    obtain ⟨q0, q1⟩ := Prod.mk.inj hE
    exact ei hx hb hr hlocks hK hP hD hS q0 (by rw [q1]) dX9_errorPosition_22
abbrev rm_X9_errorKind : Room := { frames := 3, cells := 0, slots := 0, locals := 69 }
set_option maxHeartbeats 40000000 in
set_option maxRecDepth 100000 in
theorem c_X9_errorKind (l : Launch) (D : va_G) (cy : Nat → Nat) (aM : Nat → Nat) (imM : Mem) (inM : MemL) (r' : Int32) (mM' : Mem) (hE : f_X9_errorKind imM inM = some (r', mM')) : CI l yX9_errorKind wsX9_errorKind rm_X9_errorKind D cy [.ref (aM 0)] (W_M cy aM imM inM) 0 0 r' (W_M cy aM mM' inM) := by
  refine CQ_of (cc := cX9_errorKind) (maxL := 2) (ret := (some .int)) (by decide) rfl (Nat.le_of_ble_eq_true rfl) (fun p e s m args below meth c A ls hx hb hr hml hlocks hnm hown hts hA hK hN hP hD hS hl => ?_)
  have hown : s.vm.findClass RX9 = some m.cls := hown
  have hl : lv_has ls 2 [(0, .ref (aM 0))] := hl
  have hC : CallFix p m c cX9_errorKind 2 s args wsX9_errorKind RX9 := ⟨hx, hb, hml, hown, hts⟩
  have f43 : (Cond.fieldLink RX9 43 "IcePlantModel" "thrown" "I").before args s = true := hts _ (mC qf_X9_43)
  have iX9 : ∀ w ∈ wsX90, w ∈ wsX9_errorKind := fun w h => mC (iA_X9 w h)
  unfold f_X9_errorKind at hE
  refine lv_aload_n hx hb dX9_errorKind_0 rfl (lv_at hl 0 rfl) ?_
  refine lv_iconst (v := 0) hx hb dX9_errorKind_1 (by decide) ?_
  obtain ⟨mM_1, e_mM_1, hE⟩ := lt_el hE
  refine s_pf (own := RX9) (C := RX9) (T := TX9) (N := 13) (ci := 9) (ws1 := (W_M cy aM mM_1 inM)) hx hb hts iX9 tyX9 tyX9_ok nmX9 hown hK hP hD hS 0 rfl rfl 8 (by decide) f43 rfl rfl rfl rfl (Nat.le_of_ble_eq_true rfl) (by rw [e_mM_1]; rfl) dX9_errorKind_2 (fun H locs hP hD hS => ?_)
  refine lv_aload_n hx hb dX9_errorKind_5 rfl (lv_at hl 0 rfl) ?_
  obtain ⟨r_2, mM_3, hc_4, hE⟩ := bd2_el hE
  refine ki (X := []) (Y := []) (ws1 := (W_M cy aM mM_3 inM)) (rV (X := []) (Y := []) (As := []) (rest := []) hC (c_X9_error l D cy aM mM_1 inM r_2 mM_3 hc_4) (cwV 0 hts gX9_errorKind_X9_error rfl rfl rfl cd_X9_error ⟨Nat.le_of_ble_eq_true rfl, Nat.le_of_ble_eq_true rfl⟩) hK hN hP hD hS hA rfl 0 9 rfl rfl rfl hl.1 rfl (lv_room (Nat.le_of_ble_eq_true rfl)) dX9_errorKind_6 ⟨Nat.le_of_ble_eq_true rfl, Nat.le_of_ble_eq_true rfl⟩) hP hD hS hA rfl rfl rfl (fun H locs hP hD hS => ?_)
  refine lv_istore_n (lv' := [(1, .int r_2), (0, .ref (aM 0))]) hx hb dX9_errorKind_9 rfl hl (by decide) rfl (fun ls hl => ?_)
  refine lv_iload_n hx hb dX9_errorKind_10 rfl (lv_at hl 0 rfl) ?_
  refine lv_iconst (v := (-1)) hx hb dX9_errorKind_11 (by decide) ?_
  refine lv_icmp_ne (tgt := 19) hx hb dX9_errorKind_12 (by decide) (fun c_5 => ?_) (fun c_5 => ?_)
  · replace hE := it_f hE c_5
    refine lv_iload_n hx hb dX9_errorKind_19 rfl (lv_at hl 0 rfl) ?_
    refine lv_iconst (v := 4) hx hb dX9_errorKind_20 (by decide) ?_
    refine lv_irem hx hb dX9_errorKind_21 (by decide) ?_
    have hE := Option.some.inj hE
    obtain ⟨q0, q1⟩ := Prod.mk.inj hE
    exact ei hx hb hr hlocks hK hP hD hS q0 (by rw [q1]) dX9_errorKind_22
  · replace hE := it_t hE c_5
    refine lv_iconst (v := 0) hx hb dX9_errorKind_15 (by decide) ?_
    refine lv_goto (tgt := 22) hx hb dX9_errorKind_16 (by decide) ?_
    have hE := Option.some.inj hE
    obtain ⟨q0, q1⟩ := Prod.mk.inj hE
    exact ei hx hb hr hlocks hK hP hD hS q0 (by rw [q1]) dX9_errorKind_22
abbrev rm_X9_done : Room := { frames := 7, cells := 0, slots := 0, locals := 170 }
set_option maxHeartbeats 40000000 in
set_option maxRecDepth 100000 in
theorem c_X9_done (l : Launch) (D : va_G) (cy : Nat → Nat) (aM : Nat → Nat) (imM : Mem) (inM : MemL) (r' : Int32) (mM' : Mem) (nM' : MemL) (hE : f_X9_done imM inM = some (r', mM', nM')) : CI l yX9_done wsX9_done rm_X9_done D cy [.ref (aM 0)] (W_M cy aM imM inM) 0 0 r' (W_M cy aM mM' nM') := by
  refine CQ_of (cc := cX9_done) (maxL := 5) (ret := (some .boolean)) (by decide) rfl (Nat.le_of_ble_eq_true rfl) (fun p e s m args below meth c A ls hx hb hr hml hlocks hnm hown hts hA hK hN hP hD hS hl => ?_)
  have hown : s.vm.findClass RX9 = some m.cls := hown
  have hl : lv_has ls 5 [(0, .ref (aM 0))] := hl
  have hC : CallFix p m c cX9_done 5 s args wsX9_done RX9 := ⟨hx, hb, hml, hown, hts⟩
  have f7 : (Cond.fieldLink RX9 7 "IcePlantModel" "w" "[J").before args s = true := hts _ (mC qf_X9_7)
  have f26 : (Cond.fieldLink RX9 26 "IcePlantModel" "number" "[I").before args s = true := hts _ (mC qf_X9_26)
  have f249 : (Cond.fieldLink RX9 249 "IcePlantModel" "word" "I").before args s = true := hts _ (mC qf_X9_249)
  have f258 : (Cond.fieldLink RX9 258 "IcePlantModel" "whole" "Z").before args s = true := hts _ (mC qf_X9_258)
  have iX9 : ∀ w ∈ wsX90, w ∈ wsX9_done := fun w h => mC (iA_X9 w h)
  have h97 : ∀ (x1 : Int32) (x2 : Int32) (t0 : Int32) (mM : Mem) (nM : MemL), ∀  (H : Heap) (locs : List Loc) (ls : Array Slot), f_X9_done_b97 x1 x2 t0 mM nM = some (r', mM', nM') → va_P D vwCl (W_M cy aM mM nM) H → va_D A (W_M cy aM mM nM) → va_S A s.heap H locs → lv_has ls 5 [(0, .ref (aM 0)), (1, .int x1), (2, .int x2)] → W p l e rm_X9_done s m args below meth c H locs 0 0 (MQ below (QI D cy r' (W_M cy aM mM' nM') A) args s 0 0 A) (F0 m 97 ls [.int t0]) := by
    intro x1 x2 t0 mM nM H locs ls hE hP hD hS hl
    replace hE : ((if t0 ≤ 0 then (if (mM 9 0) = (104 : Int32) then bd3 (f_X9_doPass x1 mM nM) fun r_17 mM_18 nM_19 => some ((1 : Int32), mM_18, nM_19) else (if (mM 9 0) = (111 : Int32) then bd2 (f_X9_doOrder x1 x2 (mM 5 (2 : Int32).toNatClampNeg) (mM 12 0) mM nM) fun r_14 nM_15 => some ((1 : Int32), mM, nM_15) else (if (mM 9 0) = (99 : Int32) then gi ((507 : Int32) + x1) 1888 (lt' (wrL nM 0 (vp_updL (nM 0) ((507 : Int32) + x1).toNatClampNeg (x2.toInt64))) fun nM_12 => some ((1 : Int32), mM, nM_12)) else (if (mM 9 0) = (112 : Int32) then bd2 (f_X9_doPay x1 x2 mM nM) fun r_9 nM_10 => some ((1 : Int32), mM, nM_10) else bd2 (f_X9_doMove x1 x2 mM nM) fun r_6 nM_7 => some ((1 : Int32), mM, nM_7))))) else some ((0 : Int32), mM, nM))) = some (r', mM', nM') := hE
    refine lv_istore_n (lv' := [(3, .int t0), (0, .ref (aM 0)), (1, .int x1), (2, .int x2)]) hx hb dX9_done_97 rfl hl (by decide) rfl (fun ls hl => ?_)
    refine lv_iload_n hx hb dX9_done_98 rfl (lv_at hl 0 rfl) ?_
    refine lv_if_le (tgt := 104) hx hb dX9_done_99 (by decide) (fun c_1 => ?_) (fun c_1 => ?_)
    · replace hE := it_t hE c_1
      refine lv_aload_n hx hb dX9_done_104 rfl (lv_at hl 1 rfl) ?_
      refine va_get (D := D) (ci := 9) (v := .int (mM 9 0)) (C := RX9) (T := TX9) (N := 13) hx hb hts iX9 hown hK hP 0 rfl rfl 9 (by decide) f249 (fun _ h9 => h9) rfl dX9_done_105 ?_
      refine lv_bipush (v := 104) hx hb dX9_done_108 (by decide) ?_
      refine lv_icmp_ne (tgt := 123) hx hb dX9_done_110 (by decide) (fun c_2 => ?_) (fun c_2 => ?_)
      · replace hE := it_f hE c_2
        refine lv_aload_n hx hb dX9_done_123 rfl (lv_at hl 1 rfl) ?_
        refine va_get (D := D) (ci := 9) (v := .int (mM 9 0)) (C := RX9) (T := TX9) (N := 13) hx hb hts iX9 hown hK hP 0 rfl rfl 9 (by decide) f249 (fun _ h9 => h9) rfl dX9_done_124 ?_
        refine lv_bipush (v := 111) hx hb dX9_done_127 (by decide) ?_
        refine lv_icmp_ne (tgt := 153) hx hb dX9_done_129 (by decide) (fun c_3 => ?_) (fun c_3 => ?_)
        · replace hE := it_f hE c_3
          refine lv_aload_n hx hb dX9_done_153 rfl (lv_at hl 1 rfl) ?_
          refine va_get (D := D) (ci := 9) (v := .int (mM 9 0)) (C := RX9) (T := TX9) (N := 13) hx hb hts iX9 hown hK hP 0 rfl rfl 9 (by decide) f249 (fun _ h9 => h9) rfl dX9_done_154 ?_
          refine lv_bipush (v := 99) hx hb dX9_done_157 (by decide) ?_
          refine lv_icmp_ne (tgt := 177) hx hb dX9_done_159 (by decide) (fun c_4 => ?_) (fun c_4 => ?_)
          · replace hE := it_f hE c_4
            refine lv_aload_n hx hb dX9_done_177 rfl (lv_at hl 1 rfl) ?_
            refine va_get (D := D) (ci := 9) (v := .int (mM 9 0)) (C := RX9) (T := TX9) (N := 13) hx hb hts iX9 hown hK hP 0 rfl rfl 9 (by decide) f249 (fun _ h9 => h9) rfl dX9_done_178 ?_
            refine lv_bipush (v := 112) hx hb dX9_done_181 (by decide) ?_
            refine lv_icmp_ne (tgt := 197) hx hb dX9_done_183 (by decide) (fun c_5 => ?_) (fun c_5 => ?_)
            · replace hE := it_f hE c_5
              refine lv_aload_n hx hb dX9_done_197 rfl (lv_at hl 1 rfl) ?_
              refine lv_iload_n hx hb dX9_done_198 rfl (lv_at hl 2 rfl) ?_
              refine lv_iload_n hx hb dX9_done_199 rfl (lv_at hl 3 rfl) ?_
              obtain ⟨r_6, nM_7, hc_8, hE⟩ := bd2_el hE
              refine ki (X := []) (Y := []) (ws1 := (W_M cy aM mM nM_7)) (rV (X := []) (Y := []) (As := [.int x1, .int x2]) (rest := []) hC (c_X9_doMove l D cy aM x1 x2 mM nM r_6 nM_7 hc_8) (cwV 2 hts gX9_done_X9_doMove rfl rfl rfl cd_X9_doMove ⟨Nat.le_of_ble_eq_true rfl, Nat.le_of_ble_eq_true rfl⟩) hK hN hP hD hS hA rfl 0 9 rfl rfl rfl hl.1 rfl (lv_room (Nat.le_of_ble_eq_true rfl)) dX9_done_200 ⟨Nat.le_of_ble_eq_true rfl, Nat.le_of_ble_eq_true rfl⟩) hP hD hS hA rfl rfl rfl (fun H locs hP hD hS => ?_)
              refine lv_istore (lv' := [(4, .int r_6), (3, .int t0), (0, .ref (aM 0)), (1, .int x1), (2, .int x2)]) hx hb dX9_done_203 hl (by decide) rfl (fun ls hl => ?_)
              refine lv_iconst (v := 1) hx hb dX9_done_205 (by decide) ?_
              have hE := Option.some.inj hE
              obtain ⟨q0, hE⟩ := Prod.mk.inj hE
              obtain ⟨q1, q2⟩ := Prod.mk.inj hE
              exact ez hx hb hr (by decide) hlocks hK hP hD hS q0 (by rw [q1, q2]) dX9_done_206
            · replace hE := it_t hE c_5
              refine lv_aload_n hx hb dX9_done_186 rfl (lv_at hl 1 rfl) ?_
              refine lv_iload_n hx hb dX9_done_187 rfl (lv_at hl 2 rfl) ?_
              refine lv_iload_n hx hb dX9_done_188 rfl (lv_at hl 3 rfl) ?_
              obtain ⟨r_9, nM_10, hc_11, hE⟩ := bd2_el hE
              refine ki (X := []) (Y := []) (ws1 := (W_M cy aM mM nM_10)) (rV (X := []) (Y := []) (As := [.int x1, .int x2]) (rest := []) hC (c_X9_doPay l D cy aM x1 x2 mM nM r_9 nM_10 hc_11) (cwV 2 hts gX9_done_X9_doPay rfl rfl rfl cd_X9_doPay ⟨Nat.le_of_ble_eq_true rfl, Nat.le_of_ble_eq_true rfl⟩) hK hN hP hD hS hA rfl 0 9 rfl rfl rfl hl.1 rfl (lv_room (Nat.le_of_ble_eq_true rfl)) dX9_done_189 ⟨Nat.le_of_ble_eq_true rfl, Nat.le_of_ble_eq_true rfl⟩) hP hD hS hA rfl rfl rfl (fun H locs hP hD hS => ?_)
              refine lv_istore (lv' := [(4, .int r_9), (3, .int t0), (0, .ref (aM 0)), (1, .int x1), (2, .int x2)]) hx hb dX9_done_192 hl (by decide) rfl (fun ls hl => ?_)
              refine lv_goto (tgt := 205) hx hb dX9_done_194 (by decide) ?_
              refine lv_iconst (v := 1) hx hb dX9_done_205 (by decide) ?_
              have hE := Option.some.inj hE
              obtain ⟨q0, hE⟩ := Prod.mk.inj hE
              obtain ⟨q1, q2⟩ := Prod.mk.inj hE
              exact ez hx hb hr (by decide) hlocks hK hP hD hS q0 (by rw [q1, q2]) dX9_done_206
          · replace hE := it_t hE c_4
            refine lv_aload_n hx hb dX9_done_162 rfl (lv_at hl 1 rfl) ?_
            refine va_get (D := D) (ci := 9) (v := .ref (aM 1)) (C := RX9) (T := TX9) (N := 13) hx hb hts iX9 hown hK hP 0 rfl rfl 0 (by decide) f7 (fun _ h9 => h9) rfl dX9_done_163 ?_
            refine lv_sipush (v := 507) hx hb dX9_done_166 (by decide) ?_
            refine lv_iload_n hx hb dX9_done_169 rfl (lv_at hl 2 rfl) ?_
            refine lv_iadd hx hb dX9_done_170 ?_
            refine lv_iload_n hx hb dX9_done_171 rfl (lv_at hl 3 rfl) ?_
            refine lv_i2l hx hb dX9_done_172 rfl ?_
            obtain ⟨g_13, hE⟩ := gi_el hE
            obtain ⟨nM_12, e_nM_12, hE⟩ := lt_el hE
            refine s_la (ws1 := (W_M cy aM mM nM_12)) hx hb hK hP hD hS 1 rfl g_13 (by rw [e_nM_12]; rfl) dX9_done_173 (fun H locs hP hD hS => ?_)
            refine lv_goto (tgt := 205) hx hb dX9_done_174 (by decide) ?_
            refine lv_iconst (v := 1) hx hb dX9_done_205 (by decide) ?_
            have hE := Option.some.inj hE
            obtain ⟨q0, hE⟩ := Prod.mk.inj hE
            obtain ⟨q1, q2⟩ := Prod.mk.inj hE
            exact ez hx hb hr (by decide) hlocks hK hP hD hS q0 (by rw [q1, q2]) dX9_done_206
        · replace hE := it_t hE c_3
          refine lv_aload_n hx hb dX9_done_132 rfl (lv_at hl 1 rfl) ?_
          refine lv_iload_n hx hb dX9_done_133 rfl (lv_at hl 2 rfl) ?_
          refine lv_iload_n hx hb dX9_done_134 rfl (lv_at hl 3 rfl) ?_
          refine lv_aload_n hx hb dX9_done_135 rfl (lv_at hl 1 rfl) ?_
          refine va_get (D := D) (ci := 9) (v := .ref (aM 6)) (C := RX9) (T := TX9) (N := 13) hx hb hts iX9 hown hK hP 0 rfl rfl 5 (by decide) f26 (fun _ h9 => h9) rfl dX9_done_136 ?_
          refine lv_iconst (v := 2) hx hb dX9_done_139 (by decide) ?_
          refine va_iald hx hb hK hP 6 0 rfl rfl (show ¬ ((2 : Int32) < 0 ∨ 3 ≤ (2 : Int32).toNatClampNeg) by decide) dX9_done_140 ?_
          refine lv_aload_n hx hb dX9_done_141 rfl (lv_at hl 1 rfl) ?_
          refine va_get (D := D) (ci := 9) (v := .int (mM 12 0)) (C := RX9) (T := TX9) (N := 13) hx hb hts iX9 hown hK hP 0 rfl rfl 12 (by decide) f258 (fun _ h9 => h9) rfl dX9_done_142 ?_
          obtain ⟨r_14, nM_15, hc_16, hE⟩ := bd2_el hE
          refine ki (X := []) (Y := []) (ws1 := (W_M cy aM mM nM_15)) (rV (X := []) (Y := []) (As := [.int x1, .int x2, .int (mM 5 (2 : Int32).toNatClampNeg), .int (mM 12 0)]) (rest := []) hC (c_X9_doOrder l D cy aM x1 x2 (mM 5 (2 : Int32).toNatClampNeg) (mM 12 0) mM nM r_14 nM_15 hc_16) (cwV 4 hts gX9_done_X9_doOrder rfl rfl rfl cd_X9_doOrder ⟨Nat.le_of_ble_eq_true rfl, Nat.le_of_ble_eq_true rfl⟩) hK hN hP hD hS hA rfl 0 9 rfl rfl rfl hl.1 rfl (lv_room (Nat.le_of_ble_eq_true rfl)) dX9_done_145 ⟨Nat.le_of_ble_eq_true rfl, Nat.le_of_ble_eq_true rfl⟩) hP hD hS hA rfl rfl rfl (fun H locs hP hD hS => ?_)
          refine lv_istore (lv' := [(4, .int r_14), (3, .int t0), (0, .ref (aM 0)), (1, .int x1), (2, .int x2)]) hx hb dX9_done_148 hl (by decide) rfl (fun ls hl => ?_)
          refine lv_goto (tgt := 205) hx hb dX9_done_150 (by decide) ?_
          refine lv_iconst (v := 1) hx hb dX9_done_205 (by decide) ?_
          have hE := Option.some.inj hE
          obtain ⟨q0, hE⟩ := Prod.mk.inj hE
          obtain ⟨q1, q2⟩ := Prod.mk.inj hE
          exact ez hx hb hr (by decide) hlocks hK hP hD hS q0 (by rw [q1, q2]) dX9_done_206
      · replace hE := it_t hE c_2
        refine lv_aload_n hx hb dX9_done_113 rfl (lv_at hl 1 rfl) ?_
        refine lv_iload_n hx hb dX9_done_114 rfl (lv_at hl 2 rfl) ?_
        obtain ⟨r_17, mM_18, nM_19, hc_20, hE⟩ := bd3_el hE
        refine ki (X := []) (Y := []) (ws1 := (W_M cy aM mM_18 nM_19)) (rV (X := []) (Y := []) (As := [.int x1]) (rest := []) hC (c_X9_doPass l D cy aM x1 mM nM r_17 mM_18 nM_19 hc_20) (cwV 1 hts gX9_done_X9_doPass rfl rfl rfl cd_X9_doPass ⟨Nat.le_of_ble_eq_true rfl, Nat.le_of_ble_eq_true rfl⟩) hK hN hP hD hS hA rfl 0 9 rfl rfl rfl hl.1 rfl (lv_room (Nat.le_of_ble_eq_true rfl)) dX9_done_115 ⟨Nat.le_of_ble_eq_true rfl, Nat.le_of_ble_eq_true rfl⟩) hP hD hS hA rfl rfl rfl (fun H locs hP hD hS => ?_)
        refine lv_istore (lv' := [(4, .int r_17), (3, .int t0), (0, .ref (aM 0)), (1, .int x1), (2, .int x2)]) hx hb dX9_done_118 hl (by decide) rfl (fun ls hl => ?_)
        refine lv_goto (tgt := 205) hx hb dX9_done_120 (by decide) ?_
        refine lv_iconst (v := 1) hx hb dX9_done_205 (by decide) ?_
        have hE := Option.some.inj hE
        obtain ⟨q0, hE⟩ := Prod.mk.inj hE
        obtain ⟨q1, q2⟩ := Prod.mk.inj hE
        exact ez hx hb hr (by decide) hlocks hK hP hD hS q0 (by rw [q1, q2]) dX9_done_206
    · replace hE := it_f hE c_1
      refine lv_iconst (v := 0) hx hb dX9_done_102 (by decide) ?_
      have hE := Option.some.inj hE
      obtain ⟨q0, hE⟩ := Prod.mk.inj hE
      obtain ⟨q1, q2⟩ := Prod.mk.inj hE
      exact ez hx hb hr (by decide) hlocks hK hP hD hS q0 (by rw [q1, q2]) dX9_done_103
  unfold f_X9_done at hE
  refine lv_aload_n hx hb dX9_done_0 rfl (lv_at hl 0 rfl) ?_
  refine va_get (D := D) (ci := 9) (v := .ref (aM 6)) (C := RX9) (T := TX9) (N := 13) hx hb hts iX9 hown hK hP 0 rfl rfl 5 (by decide) f26 (fun _ h9 => h9) rfl dX9_done_1 ?_
  refine lv_iconst (v := 0) hx hb dX9_done_4 (by decide) ?_
  refine va_iald hx hb hK hP 6 0 rfl rfl (show ¬ ((0 : Int32) < 0 ∨ 3 ≤ (0 : Int32).toNatClampNeg) by decide) dX9_done_5 ?_
  obtain ⟨x1_21, e_x1_21, hE⟩ := lt_el hE
  refine s_nm e_x1_21 ?_
  refine lv_istore_n (lv' := [(1, .int x1_21), (0, .ref (aM 0))]) hx hb dX9_done_6 rfl hl (by decide) rfl (fun ls hl => ?_)
  refine lv_aload_n hx hb dX9_done_7 rfl (lv_at hl 1 rfl) ?_
  refine va_get (D := D) (ci := 9) (v := .ref (aM 6)) (C := RX9) (T := TX9) (N := 13) hx hb hts iX9 hown hK hP 0 rfl rfl 5 (by decide) f26 (fun _ h9 => h9) rfl dX9_done_8 ?_
  refine lv_iconst (v := 1) hx hb dX9_done_11 (by decide) ?_
  refine va_iald hx hb hK hP 6 0 rfl rfl (show ¬ ((1 : Int32) < 0 ∨ 3 ≤ (1 : Int32).toNatClampNeg) by decide) dX9_done_12 ?_
  obtain ⟨x2_22, e_x2_22, hE⟩ := lt_el hE
  refine s_nm e_x2_22 ?_
  refine lv_istore_n (lv' := [(2, .int x2_22), (1, .int x1_21), (0, .ref (aM 0))]) hx hb dX9_done_13 rfl hl (by decide) rfl (fun ls hl => ?_)
  refine lv_aload_n hx hb dX9_done_14 rfl (lv_at hl 2 rfl) ?_
  refine va_get (D := D) (ci := 9) (v := .int (imM 9 0)) (C := RX9) (T := TX9) (N := 13) hx hb hts iX9 hown hK hP 0 rfl rfl 9 (by decide) f249 (fun _ h9 => h9) rfl dX9_done_15 ?_
  refine lv_bipush (v := 104) hx hb dX9_done_18 (by decide) ?_
  refine lv_icmp_ne (tgt := 31) hx hb dX9_done_20 (by decide) (fun c_23 => ?_) (fun c_23 => ?_)
  · replace hE := it_f hE c_23
    refine lv_aload_n hx hb dX9_done_31 rfl (lv_at hl 2 rfl) ?_
    refine va_get (D := D) (ci := 9) (v := .int (imM 9 0)) (C := RX9) (T := TX9) (N := 13) hx hb hts iX9 hown hK hP 0 rfl rfl 9 (by decide) f249 (fun _ h9 => h9) rfl dX9_done_32 ?_
    refine lv_bipush (v := 111) hx hb dX9_done_35 (by decide) ?_
    refine lv_icmp_ne (tgt := 55) hx hb dX9_done_37 (by decide) (fun c_24 => ?_) (fun c_24 => ?_)
    · replace hE := it_f hE c_24
      refine lv_aload_n hx hb dX9_done_55 rfl (lv_at hl 2 rfl) ?_
      refine va_get (D := D) (ci := 9) (v := .int (imM 9 0)) (C := RX9) (T := TX9) (N := 13) hx hb hts iX9 hown hK hP 0 rfl rfl 9 (by decide) f249 (fun _ h9 => h9) rfl dX9_done_56 ?_
      refine lv_bipush (v := 99) hx hb dX9_done_59 (by decide) ?_
      refine lv_icmp_ne (tgt := 73) hx hb dX9_done_61 (by decide) (fun c_25 => ?_) (fun c_25 => ?_)
      · replace hE := it_f hE c_25
        refine lv_aload_n hx hb dX9_done_73 rfl (lv_at hl 2 rfl) ?_
        refine va_get (D := D) (ci := 9) (v := .int (imM 9 0)) (C := RX9) (T := TX9) (N := 13) hx hb hts iX9 hown hK hP 0 rfl rfl 9 (by decide) f249 (fun _ h9 => h9) rfl dX9_done_74 ?_
        refine lv_bipush (v := 112) hx hb dX9_done_77 (by decide) ?_
        refine lv_icmp_ne (tgt := 91) hx hb dX9_done_79 (by decide) (fun c_26 => ?_) (fun c_26 => ?_)
        · replace hE := it_f hE c_26
          refine lv_aload_n hx hb dX9_done_91 rfl (lv_at hl 2 rfl) ?_
          refine lv_iload_n hx hb dX9_done_92 rfl (lv_at hl 1 rfl) ?_
          refine lv_iload_n hx hb dX9_done_93 rfl (lv_at hl 0 rfl) ?_
          obtain ⟨r_27, hc_28, hE⟩ := bd1_el hE
          refine ki (X := []) (Y := []) (ws1 := (W_M cy aM imM inM)) (rV (X := []) (Y := []) (As := [.int x1_21, .int x2_22]) (rest := []) hC (c_X9_moveThrows l D cy aM x1_21 x2_22 imM inM r_27 hc_28) (cwV 2 hts gX9_done_X9_moveThrows rfl rfl rfl cd_X9_moveThrows ⟨Nat.le_of_ble_eq_true rfl, Nat.le_of_ble_eq_true rfl⟩) hK hN hP hD hS hA rfl 0 9 rfl rfl rfl hl.1 rfl (lv_room (Nat.le_of_ble_eq_true rfl)) dX9_done_94 ⟨Nat.le_of_ble_eq_true rfl, Nat.le_of_ble_eq_true rfl⟩) hP hD hS hA rfl rfl rfl (fun H locs hP hD hS => ?_)
          exact h97 x1_21 x2_22 r_27 imM inM _ _ _ hE hP hD hS (lv_sub hl [2, 1, 0] rfl)
        · replace hE := it_t hE c_26
          refine lv_aload_n hx hb dX9_done_82 rfl (lv_at hl 2 rfl) ?_
          refine lv_iload_n hx hb dX9_done_83 rfl (lv_at hl 1 rfl) ?_
          refine lv_iload_n hx hb dX9_done_84 rfl (lv_at hl 0 rfl) ?_
          obtain ⟨r_29, hc_30, hE⟩ := bd1_el hE
          refine ki (X := []) (Y := []) (ws1 := (W_M cy aM imM inM)) (rV (X := []) (Y := []) (As := [.int x1_21, .int x2_22]) (rest := []) hC (c_X9_payThrows l D cy aM x1_21 x2_22 imM inM r_29 hc_30) (cwV 2 hts gX9_done_X9_payThrows rfl rfl rfl cd_X9_payThrows ⟨Nat.le_of_ble_eq_true rfl, Nat.le_of_ble_eq_true rfl⟩) hK hN hP hD hS hA rfl 0 9 rfl rfl rfl hl.1 rfl (lv_room (Nat.le_of_ble_eq_true rfl)) dX9_done_85 ⟨Nat.le_of_ble_eq_true rfl, Nat.le_of_ble_eq_true rfl⟩) hP hD hS hA rfl rfl rfl (fun H locs hP hD hS => ?_)
          refine lv_goto (tgt := 97) hx hb dX9_done_88 (by decide) ?_
          exact h97 x1_21 x2_22 r_29 imM inM _ _ _ hE hP hD hS (lv_sub hl [2, 1, 0] rfl)
      · replace hE := it_t hE c_25
        refine lv_aload_n hx hb dX9_done_64 rfl (lv_at hl 2 rfl) ?_
        refine lv_iload_n hx hb dX9_done_65 rfl (lv_at hl 1 rfl) ?_
        refine lv_iload_n hx hb dX9_done_66 rfl (lv_at hl 0 rfl) ?_
        obtain ⟨r_31, hc_32, hE⟩ := bd1_el hE
        refine ki (X := []) (Y := []) (ws1 := (W_M cy aM imM inM)) (rV (X := []) (Y := []) (As := [.int x1_21, .int x2_22]) (rest := []) hC (c_X9_catchThrows l D cy aM x1_21 x2_22 imM inM r_31 hc_32) (cwV 2 hts gX9_done_X9_catchThrows rfl rfl rfl cd_X9_catchThrows ⟨Nat.le_of_ble_eq_true rfl, Nat.le_of_ble_eq_true rfl⟩) hK hN hP hD hS hA rfl 0 9 rfl rfl rfl hl.1 rfl (lv_room (Nat.le_of_ble_eq_true rfl)) dX9_done_67 ⟨Nat.le_of_ble_eq_true rfl, Nat.le_of_ble_eq_true rfl⟩) hP hD hS hA rfl rfl rfl (fun H locs hP hD hS => ?_)
        refine lv_goto (tgt := 97) hx hb dX9_done_70 (by decide) ?_
        exact h97 x1_21 x2_22 r_31 imM inM _ _ _ hE hP hD hS (lv_sub hl [2, 1, 0] rfl)
    · replace hE := it_t hE c_24
      refine lv_aload_n hx hb dX9_done_40 rfl (lv_at hl 2 rfl) ?_
      refine lv_iload_n hx hb dX9_done_41 rfl (lv_at hl 1 rfl) ?_
      refine lv_iload_n hx hb dX9_done_42 rfl (lv_at hl 0 rfl) ?_
      refine lv_aload_n hx hb dX9_done_43 rfl (lv_at hl 2 rfl) ?_
      refine va_get (D := D) (ci := 9) (v := .ref (aM 6)) (C := RX9) (T := TX9) (N := 13) hx hb hts iX9 hown hK hP 0 rfl rfl 5 (by decide) f26 (fun _ h9 => h9) rfl dX9_done_44 ?_
      refine lv_iconst (v := 2) hx hb dX9_done_47 (by decide) ?_
      refine va_iald hx hb hK hP 6 0 rfl rfl (show ¬ ((2 : Int32) < 0 ∨ 3 ≤ (2 : Int32).toNatClampNeg) by decide) dX9_done_48 ?_
      obtain ⟨r_33, hc_34, hE⟩ := bd1_el hE
      refine ki (X := []) (Y := []) (ws1 := (W_M cy aM imM inM)) (rV (X := []) (Y := []) (As := [.int x1_21, .int x2_22, .int (imM 5 (2 : Int32).toNatClampNeg)]) (rest := []) hC (c_X9_orderThrows l D cy aM x1_21 x2_22 (imM 5 (2 : Int32).toNatClampNeg) imM inM r_33 hc_34) (cwV 3 hts gX9_done_X9_orderThrows rfl rfl rfl cd_X9_orderThrows ⟨Nat.le_of_ble_eq_true rfl, Nat.le_of_ble_eq_true rfl⟩) hK hN hP hD hS hA rfl 0 9 rfl rfl rfl hl.1 rfl (lv_room (Nat.le_of_ble_eq_true rfl)) dX9_done_49 ⟨Nat.le_of_ble_eq_true rfl, Nat.le_of_ble_eq_true rfl⟩) hP hD hS hA rfl rfl rfl (fun H locs hP hD hS => ?_)
      refine lv_goto (tgt := 97) hx hb dX9_done_52 (by decide) ?_
      exact h97 x1_21 x2_22 r_33 imM inM _ _ _ hE hP hD hS (lv_sub hl [2, 1, 0] rfl)
  · replace hE := it_t hE c_23
    refine lv_aload_n hx hb dX9_done_23 rfl (lv_at hl 2 rfl) ?_
    refine lv_iload_n hx hb dX9_done_24 rfl (lv_at hl 1 rfl) ?_
    obtain ⟨r_35, hc_36, hE⟩ := bd1_el hE
    refine ki (X := []) (Y := []) (ws1 := (W_M cy aM imM inM)) (rV (X := []) (Y := []) (As := [.int x1_21]) (rest := []) hC (c_X9_passThrows l D cy aM x1_21 imM inM r_35 hc_36) (cwV 1 hts gX9_done_X9_passThrows rfl rfl rfl cd_X9_passThrows ⟨Nat.le_of_ble_eq_true rfl, Nat.le_of_ble_eq_true rfl⟩) hK hN hP hD hS hA rfl 0 9 rfl rfl rfl hl.1 rfl (lv_room (Nat.le_of_ble_eq_true rfl)) dX9_done_25 ⟨Nat.le_of_ble_eq_true rfl, Nat.le_of_ble_eq_true rfl⟩) hP hD hS hA rfl rfl rfl (fun H locs hP hD hS => ?_)
    refine lv_goto (tgt := 97) hx hb dX9_done_28 (by decide) ?_
    exact h97 x1_21 x2_22 r_35 imM inM _ _ _ hE hP hD hS (lv_sub hl [2, 1, 0] rfl)
abbrev rm_X9_execute : Room := { frames := 8, cells := 0, slots := 0, locals := 194 }
set_option maxHeartbeats 40000000 in
set_option maxRecDepth 100000 in
theorem c_X9_execute (l : Launch) (D : va_G) (cy : Nat → Nat) (aM : Nat → Nat) (imM : Mem) (inM : MemL) (r' : Int32) (mM' : Mem) (nM' : MemL) (hE : f_X9_execute imM inM = some (r', mM', nM')) : CI l yX9_execute wsX9_execute rm_X9_execute D cy [.ref (aM 0)] (W_M cy aM imM inM) 0 0 r' (W_M cy aM mM' nM') := by
  refine CQ_of (cc := cX9_execute) (maxL := 5) (ret := (some .int)) (by decide) rfl (Nat.le_of_ble_eq_true rfl) (fun p e s m args below meth c A ls hx hb hr hml hlocks hnm hown hts hA hK hN hP hD hS hl => ?_)
  have hown : s.vm.findClass RX9 = some m.cls := hown
  have hl : lv_has ls 5 [(0, .ref (aM 0))] := hl
  have hC : CallFix p m c cX9_execute 5 s args wsX9_execute RX9 := ⟨hx, hb, hml, hown, hts⟩
  have f23 : (Cond.fieldLink RX9 23 "IcePlantModel" "text" "[I").before args s = true := hts _ (mC qf_X9_23)
  have f43 : (Cond.fieldLink RX9 43 "IcePlantModel" "thrown" "I").before args s = true := hts _ (mC qf_X9_43)
  have f246 : (Cond.fieldLink RX9 246 "IcePlantModel" "length" "I").before args s = true := hts _ (mC qf_X9_246)
  have f249 : (Cond.fieldLink RX9 249 "IcePlantModel" "word" "I").before args s = true := hts _ (mC qf_X9_249)
  have iX9 : ∀ w ∈ wsX90, w ∈ wsX9_execute := fun w h => mC (iA_X9 w h)
  have h118 : ∀ (x1 : Int32) (mM : Mem) (nM : MemL), ∀  (H : Heap) (locs : List Loc) (ls : Array Slot), f_X9_execute_b118 x1 mM nM = some (r', mM', nM') → va_P D vwCl (W_M cy aM mM nM) H → va_D A (W_M cy aM mM nM) → va_S A s.heap H locs → lv_has ls 5 [(0, .ref (aM 0)), (1, .int x1)] → W p l e rm_X9_execute s m args below meth c H locs 0 0 (MQ below (QI D cy r' (W_M cy aM mM' nM') A) args s 0 0 A) (F0 m 118 ls []) := by
    intro x1 mM nM H locs ls hE hP hD hS hl
    replace hE : (lt' (wrI mM 7 (fun _ => (0 : Int32))) fun mM_1 => some (x1, mM_1, nM)) = some (r', mM', nM') := hE
    refine lv_aload_n hx hb dX9_execute_118 rfl (lv_at hl 0 rfl) ?_
    refine lv_iconst (v := 0) hx hb dX9_execute_119 (by decide) ?_
    obtain ⟨mM_1, e_mM_1, hE⟩ := lt_el hE
    refine s_pf (own := RX9) (C := RX9) (T := TX9) (N := 13) (ci := 9) (ws1 := (W_M cy aM mM_1 nM)) hx hb hts iX9 tyX9 tyX9_ok nmX9 hown hK hP hD hS 0 rfl rfl 7 (by decide) f246 rfl rfl rfl rfl (Nat.le_of_ble_eq_true rfl) (by rw [e_mM_1]; rfl) dX9_execute_120 (fun H locs hP hD hS => ?_)
    refine lv_iload_n hx hb dX9_execute_123 rfl (lv_at hl 1 rfl) ?_
    have hE := Option.some.inj hE
    obtain ⟨q0, hE⟩ := Prod.mk.inj hE
    obtain ⟨q1, q2⟩ := Prod.mk.inj hE
    exact ei hx hb hr hlocks hK hP hD hS q0 (by rw [q1, q2]) dX9_execute_124
  have h112 : ∀ (x1 : Int32) (x2 : Int32) (x3 : Int32) (mM : Mem) (nM : MemL), ∀ (k45 : (Int32 → Int32 → Int32 → Mem → MemL → Option (Int32 × Mem × MemL))), (∀ (x1 : Int32) (x2 : Int32) (x3 : Int32) (mM : Mem) (nM : MemL) (H : Heap) (locs : List Loc) (ls : Array Slot), k45 x1 x2 x3 mM nM = some (r', mM', nM') → va_P D vwCl (W_M cy aM mM nM) H → va_D A (W_M cy aM mM nM) → va_S A s.heap H locs → lv_has ls 5 [(0, .ref (aM 0)), (1, .int x1), (2, .int x2), (3, .int x3)] → W p l e rm_X9_execute s m args below meth c H locs 0 0 (MQ below (QI D cy r' (W_M cy aM mM' nM') A) args s 0 0 A) (F0 m 45 ls [])) → ∀  (H : Heap) (locs : List Loc) (ls : Array Slot), f_X9_execute_b112 k45 x1 x2 x3 mM nM = some (r', mM', nM') → va_P D vwCl (W_M cy aM mM nM) H → va_D A (W_M cy aM mM nM) → va_S A s.heap H locs → lv_has ls 5 [(0, .ref (aM 0)), (1, .int x1), (2, .int x2), (3, .int x3)] → W p l e rm_X9_execute s m args below meth c H locs 0 0 (MQ below (QI D cy r' (W_M cy aM mM' nM') A) args s 0 0 A) (F0 m 112 ls []) := by
    intro x1 x2 x3 mM nM k45 hk45 H locs ls hE hP hD hS hl
    replace hE : (lt' (x3 + (1 : Int32)) fun x3_2 => k45 x1 x2 x3_2 mM nM) = some (r', mM', nM') := hE
    obtain ⟨x3_2, e_x3_2, hE⟩ := lt_el hE
    refine lv_iinc (v := x3_2) (lv' := [(3, .int x3_2), (0, .ref (aM 0)), (1, .int x1), (2, .int x2)]) hx hb dX9_execute_112 hl (k := 3) rfl (by rw [e_x3_2]; rfl) (by decide) rfl (fun ls hl => ?_)
    refine lv_goto (tgt := 45) hx hb dX9_execute_115 (by decide) ?_
    exact hk45 x1 x2 x3_2 mM nM _ _ _ hE hP hD hS (lv_sub hl [1, 2, 3, 0] rfl)
  have h105 : ∀ (x2 : Int32) (x3 : Int32) (t0 : Int32) (t1 : Int32) (mM : Mem) (nM : MemL), ∀ (k45 : (Int32 → Int32 → Int32 → Mem → MemL → Option (Int32 × Mem × MemL))), (∀ (x1 : Int32) (x2 : Int32) (x3 : Int32) (mM : Mem) (nM : MemL) (H : Heap) (locs : List Loc) (ls : Array Slot), k45 x1 x2 x3 mM nM = some (r', mM', nM') → va_P D vwCl (W_M cy aM mM nM) H → va_D A (W_M cy aM mM nM) → va_S A s.heap H locs → lv_has ls 5 [(0, .ref (aM 0)), (1, .int x1), (2, .int x2), (3, .int x3)] → W p l e rm_X9_execute s m args below meth c H locs 0 0 (MQ below (QI D cy r' (W_M cy aM mM' nM') A) args s 0 0 A) (F0 m 45 ls [])) → ∀  (H : Heap) (locs : List Loc) (ls : Array Slot), f_X9_execute_b105 k45 x2 x3 t0 t1 mM nM = some (r', mM', nM') → va_P D vwCl (W_M cy aM mM nM) H → va_D A (W_M cy aM mM nM) → va_S A s.heap H locs → lv_has ls 5 [(0, .ref (aM 0)), (2, .int x2), (3, .int x3)] → W p l e rm_X9_execute s m args below meth c H locs 0 0 (MQ below (QI D cy r' (W_M cy aM mM' nM') A) args s 0 0 A) (F0 m 105 ls [.int t0, .int t1]) := by
    intro x2 x3 t0 t1 mM nM k45 hk45 H locs ls hE hP hD hS hl
    replace hE : (lt' (t1 + t0) fun x1_3 => lt' (wrI mM 9 (fun _ => (0 : Int32))) fun mM_4 => f_X9_execute_b112 k45 x1_3 x2 x3 mM_4 nM) = some (r', mM', nM') := hE
    refine lv_iadd hx hb dX9_execute_105 ?_
    obtain ⟨x1_3, e_x1_3, hE⟩ := lt_el hE
    refine s_nm e_x1_3 ?_
    refine lv_istore_n (lv' := [(1, .int x1_3), (0, .ref (aM 0)), (2, .int x2), (3, .int x3)]) hx hb dX9_execute_106 rfl hl (by decide) rfl (fun ls hl => ?_)
    refine lv_aload_n hx hb dX9_execute_107 rfl (lv_at hl 1 rfl) ?_
    refine lv_iconst (v := 0) hx hb dX9_execute_108 (by decide) ?_
    obtain ⟨mM_4, e_mM_4, hE⟩ := lt_el hE
    refine s_pf (own := RX9) (C := RX9) (T := TX9) (N := 13) (ci := 9) (ws1 := (W_M cy aM mM_4 nM)) hx hb hts iX9 tyX9 tyX9_ok nmX9 hown hK hP hD hS 0 rfl rfl 9 (by decide) f249 rfl rfl rfl rfl (Nat.le_of_ble_eq_true rfl) (by rw [e_mM_4]; rfl) dX9_execute_109 (fun H locs hP hD hS => ?_)
    exact h112 x1_3 x2 x3 mM_4 nM k45 hk45 _ _ _ hE hP hD hS (lv_sub hl [1, 0, 2, 3] rfl)
  have h90 : ∀ (x1 : Int32) (x3 : Int32) (mM : Mem) (nM : MemL), ∀ (k45 : (Int32 → Int32 → Int32 → Mem → MemL → Option (Int32 × Mem × MemL))), (∀ (x1 : Int32) (x2 : Int32) (x3 : Int32) (mM : Mem) (nM : MemL) (H : Heap) (locs : List Loc) (ls : Array Slot), k45 x1 x2 x3 mM nM = some (r', mM', nM') → va_P D vwCl (W_M cy aM mM nM) H → va_D A (W_M cy aM mM nM) → va_S A s.heap H locs → lv_has ls 5 [(0, .ref (aM 0)), (1, .int x1), (2, .int x2), (3, .int x3)] → W p l e rm_X9_execute s m args below meth c H locs 0 0 (MQ below (QI D cy r' (W_M cy aM mM' nM') A) args s 0 0 A) (F0 m 45 ls [])) → ∀  (H : Heap) (locs : List Loc) (ls : Array Slot), f_X9_execute_b90 k45 x1 x3 mM nM = some (r', mM', nM') → va_P D vwCl (W_M cy aM mM nM) H → va_D A (W_M cy aM mM nM) → va_S A s.heap H locs → lv_has ls 5 [(0, .ref (aM 0)), (1, .int x1), (3, .int x3)] → W p l e rm_X9_execute s m args below meth c H locs 0 0 (MQ below (QI D cy r' (W_M cy aM mM' nM') A) args s 0 0 A) (F0 m 90 ls []) := by
    intro x1 x3 mM nM k45 hk45 H locs ls hE hP hD hS hl
    replace hE : (bd3 (f_X9_done mM nM) fun r_5 mM_6 nM_7 => (if r_5 = 0 then f_X9_execute_b105 k45 r_5 x3 (0 : Int32) x1 mM_6 nM_7 else f_X9_execute_b105 k45 r_5 x3 (1 : Int32) x1 mM_6 nM_7)) = some (r', mM', nM') := hE
    refine lv_aload_n hx hb dX9_execute_90 rfl (lv_at hl 0 rfl) ?_
    obtain ⟨r_5, mM_6, nM_7, hc_8, hE⟩ := bd3_el hE
    refine ki (X := []) (Y := []) (ws1 := (W_M cy aM mM_6 nM_7)) (rV (X := []) (Y := []) (As := []) (rest := []) hC (c_X9_done l D cy aM mM nM r_5 mM_6 nM_7 hc_8) (cwV 0 hts gX9_execute_X9_done rfl rfl rfl cd_X9_done ⟨Nat.le_of_ble_eq_true rfl, Nat.le_of_ble_eq_true rfl⟩) hK hN hP hD hS hA rfl 0 9 rfl rfl rfl hl.1 rfl (lv_room (Nat.le_of_ble_eq_true rfl)) dX9_execute_91 ⟨Nat.le_of_ble_eq_true rfl, Nat.le_of_ble_eq_true rfl⟩) hP hD hS hA rfl rfl rfl (fun H locs hP hD hS => ?_)
    refine lv_istore_n (lv' := [(2, .int r_5), (0, .ref (aM 0)), (1, .int x1), (3, .int x3)]) hx hb dX9_execute_94 rfl hl (by decide) rfl (fun ls hl => ?_)
    refine lv_iload_n hx hb dX9_execute_95 rfl (lv_at hl 2 rfl) ?_
    refine lv_iload_n hx hb dX9_execute_96 rfl (lv_at hl 0 rfl) ?_
    refine lv_if_eq (tgt := 104) hx hb dX9_execute_97 (by decide) (fun c_9 => ?_) (fun c_9 => ?_)
    · replace hE := it_t hE c_9
      refine lv_iconst (v := 0) hx hb dX9_execute_104 (by decide) ?_
      exact h105 r_5 x3 (0 : Int32) x1 mM_6 nM_7 k45 hk45 _ _ _ hE hP hD hS (lv_sub hl [1, 0, 3] rfl)
    · replace hE := it_f hE c_9
      refine lv_iconst (v := 1) hx hb dX9_execute_100 (by decide) ?_
      refine lv_goto (tgt := 105) hx hb dX9_execute_101 (by decide) ?_
      exact h105 r_5 x3 (1 : Int32) x1 mM_6 nM_7 k45 hk45 _ _ _ hE hP hD hS (lv_sub hl [1, 0, 3] rfl)
  have h45 : ∀ (n : Nat), ∀ (x1 : Int32) (x2 : Int32) (x3 : Int32) (mM : Mem) (nM : MemL) (H : Heap) (locs : List Loc) (ls : Array Slot), f_X9_execute_L45 n x1 x2 x3 mM nM = some (r', mM', nM') → va_P D vwCl (W_M cy aM mM nM) H → va_D A (W_M cy aM mM nM) → va_S A s.heap H locs → lv_has ls 5 [(0, .ref (aM 0)), (1, .int x1), (2, .int x2), (3, .int x3)] → W p l e rm_X9_execute s m args below meth c H locs 0 0 (MQ below (QI D cy r' (W_M cy aM mM' nM') A) args s 0 0 A) (F0 m 45 ls []) := by
    intro n
    induction n with
    | zero => intro x1 x2 x3 mM nM H locs ls hE; exact absurd hE (fun h9 => nomatch h9)
    | succ n ih =>
      intro x1 x2 x3 mM nM H locs ls hE hP hD hS hl
      replace hE : ((if (mM 7 0) ≤ x3 then f_X9_execute_b118 x1 mM nM else (if x2 = 0 then f_X9_execute_b118 x1 mM nM else gi x3 120 (bd2 (f_X9_readOne (mM 4 x3.toNatClampNeg) mM nM) fun r_13 mM_14 => gi x3 120 ((if (mM_14 4 x3.toNatClampNeg) = (59 : Int32) then f_X9_execute_b90 (f_X9_execute_L45 n) x1 x3 mM_14 nM else (if x3 = ((mM_14 7 0) - (1 : Int32)) then f_X9_execute_b90 (f_X9_execute_L45 n) x1 x3 mM_14 nM else f_X9_execute_b112 (f_X9_execute_L45 n) x1 x2 x3 mM_14 nM))))))) = some (r', mM', nM') := hE
      refine lv_iload_n hx hb dX9_execute_45 rfl (lv_at hl 3 rfl) ?_
      refine lv_aload_n hx hb dX9_execute_46 rfl (lv_at hl 0 rfl) ?_
      refine va_get (D := D) (ci := 9) (v := .int (mM 7 0)) (C := RX9) (T := TX9) (N := 13) hx hb hts iX9 hown hK hP 0 rfl rfl 7 (by decide) f246 (fun _ h9 => h9) rfl dX9_execute_47 ?_
      refine lv_icmp_ge (tgt := 118) hx hb dX9_execute_50 (by decide) (fun c_10 => ?_) (fun c_10 => ?_)
      · replace hE := it_t hE c_10
        exact h118 x1 mM nM _ _ _ hE hP hD hS (lv_sub hl [0, 1] rfl)
      · replace hE := it_f hE c_10
        refine lv_iload_n hx hb dX9_execute_53 rfl (lv_at hl 2 rfl) ?_
        refine lv_if_eq (tgt := 118) hx hb dX9_execute_54 (by decide) (fun c_11 => ?_) (fun c_11 => ?_)
        · replace hE := it_t hE c_11
          exact h118 x1 mM nM _ _ _ hE hP hD hS (lv_sub hl [0, 1] rfl)
        · replace hE := it_f hE c_11
          refine lv_aload_n hx hb dX9_execute_57 rfl (lv_at hl 0 rfl) ?_
          refine lv_aload_n hx hb dX9_execute_58 rfl (lv_at hl 0 rfl) ?_
          refine va_get (D := D) (ci := 9) (v := .ref (aM 5)) (C := RX9) (T := TX9) (N := 13) hx hb hts iX9 hown hK hP 0 rfl rfl 4 (by decide) f23 (fun _ h9 => h9) rfl dX9_execute_59 ?_
          refine lv_iload_n hx hb dX9_execute_62 rfl (lv_at hl 3 rfl) ?_
          obtain ⟨g_12, hE⟩ := gi_el hE
          refine va_iald hx hb hK hP 5 0 rfl rfl g_12 dX9_execute_63 ?_
          obtain ⟨r_13, mM_14, hc_15, hE⟩ := bd2_el hE
          refine ki (X := []) (Y := []) (ws1 := (W_M cy aM mM_14 nM)) (rV (X := []) (Y := []) (As := [.int (mM 4 x3.toNatClampNeg)]) (rest := []) hC (c_X9_readOne l D cy aM (mM 4 x3.toNatClampNeg) mM nM r_13 mM_14 hc_15) (cwV 1 hts gX9_execute_X9_readOne rfl rfl rfl cd_X9_readOne ⟨Nat.le_of_ble_eq_true rfl, Nat.le_of_ble_eq_true rfl⟩) hK hN hP hD hS hA rfl 0 9 rfl rfl rfl hl.1 rfl (lv_room (Nat.le_of_ble_eq_true rfl)) dX9_execute_64 ⟨Nat.le_of_ble_eq_true rfl, Nat.le_of_ble_eq_true rfl⟩) hP hD hS hA rfl rfl rfl (fun H locs hP hD hS => ?_)
          refine lv_istore (lv' := [(4, .int r_13), (0, .ref (aM 0)), (1, .int x1), (2, .int x2), (3, .int x3)]) hx hb dX9_execute_67 hl (by decide) rfl (fun ls hl => ?_)
          refine lv_aload_n hx hb dX9_execute_69 rfl (lv_at hl 1 rfl) ?_
          refine va_get (D := D) (ci := 9) (v := .ref (aM 5)) (C := RX9) (T := TX9) (N := 13) hx hb hts iX9 hown hK hP 0 rfl rfl 4 (by decide) f23 (fun _ h9 => h9) rfl dX9_execute_70 ?_
          refine lv_iload_n hx hb dX9_execute_73 rfl (lv_at hl 4 rfl) ?_
          obtain ⟨g_16, hE⟩ := gi_el hE
          refine va_iald hx hb hK hP 5 0 rfl rfl g_16 dX9_execute_74 ?_
          refine lv_bipush (v := 59) hx hb dX9_execute_75 (by decide) ?_
          refine lv_icmp_eq (tgt := 90) hx hb dX9_execute_77 (by decide) (fun c_17 => ?_) (fun c_17 => ?_)
          · replace hE := it_t hE c_17
            exact h90 x1 x3 mM_14 nM (f_X9_execute_L45 n) ih _ _ _ hE hP hD hS (lv_sub hl [1, 2, 4] rfl)
          · replace hE := it_f hE c_17
            refine lv_iload_n hx hb dX9_execute_80 rfl (lv_at hl 4 rfl) ?_
            refine lv_aload_n hx hb dX9_execute_81 rfl (lv_at hl 1 rfl) ?_
            refine va_get (D := D) (ci := 9) (v := .int (mM_14 7 0)) (C := RX9) (T := TX9) (N := 13) hx hb hts iX9 hown hK hP 0 rfl rfl 7 (by decide) f246 (fun _ h9 => h9) rfl dX9_execute_82 ?_
            refine lv_iconst (v := 1) hx hb dX9_execute_85 (by decide) ?_
            refine lv_isub hx hb dX9_execute_86 ?_
            refine lv_icmp_ne (tgt := 112) hx hb dX9_execute_87 (by decide) (fun c_18 => ?_) (fun c_18 => ?_)
            · replace hE := it_f hE c_18
              exact h112 x1 x2 x3 mM_14 nM (f_X9_execute_L45 n) ih _ _ _ hE hP hD hS (lv_sub hl [1, 2, 3, 4] rfl)
            · replace hE := it_t hE c_18
              exact h90 x1 x3 mM_14 nM (f_X9_execute_L45 n) ih _ _ _ hE hP hD hS (lv_sub hl [1, 2, 4] rfl)
  have h37 : ∀ (x1 : Int32) (t0 : Int32) (mM : Mem) (nM : MemL), ∀  (H : Heap) (locs : List Loc) (ls : Array Slot), f_X9_execute_b37 x1 t0 mM nM = some (r', mM', nM') → va_P D vwCl (W_M cy aM mM nM) H → va_D A (W_M cy aM mM nM) → va_S A s.heap H locs → lv_has ls 5 [(0, .ref (aM 0)), (1, .int x1)] → W p l e rm_X9_execute s m args below meth c H locs 0 0 (MQ below (QI D cy r' (W_M cy aM mM' nM') A) args s 0 0 A) (F0 m 37 ls [.int t0]) := by
    intro x1 t0 mM nM H locs ls hE hP hD hS hl
    replace hE : (lt' (wrI mM 9 (fun _ => (0 : Int32))) fun mM_19 => f_X9_execute_L45 fuel x1 t0 (0 : Int32) mM_19 nM) = some (r', mM', nM') := hE
    refine lv_istore_n (lv' := [(2, .int t0), (0, .ref (aM 0)), (1, .int x1)]) hx hb dX9_execute_37 rfl hl (by decide) rfl (fun ls hl => ?_)
    refine lv_aload_n hx hb dX9_execute_38 rfl (lv_at hl 1 rfl) ?_
    refine lv_iconst (v := 0) hx hb dX9_execute_39 (by decide) ?_
    obtain ⟨mM_19, e_mM_19, hE⟩ := lt_el hE
    refine s_pf (own := RX9) (C := RX9) (T := TX9) (N := 13) (ci := 9) (ws1 := (W_M cy aM mM_19 nM)) hx hb hts iX9 tyX9 tyX9_ok nmX9 hown hK hP hD hS 0 rfl rfl 9 (by decide) f249 rfl rfl rfl rfl (Nat.le_of_ble_eq_true rfl) (by rw [e_mM_19]; rfl) dX9_execute_40 (fun H locs hP hD hS => ?_)
    refine lv_iconst (v := 0) hx hb dX9_execute_43 (by decide) ?_
    refine lv_istore_n (lv' := [(3, .int (0 : Int32)), (2, .int t0), (0, .ref (aM 0)), (1, .int x1)]) hx hb dX9_execute_44 rfl hl (by decide) rfl (fun ls hl => ?_)
    exact h45 fuel x1 t0 (0 : Int32) mM_19 nM _ _ _ hE hP hD hS (lv_sub hl [2, 3, 1, 0] rfl)
  unfold f_X9_execute at hE
  refine lv_aload_n hx hb dX9_execute_0 rfl (lv_at hl 0 rfl) ?_
  refine lv_iconst (v := 0) hx hb dX9_execute_1 (by decide) ?_
  obtain ⟨mM_20, e_mM_20, hE⟩ := lt_el hE
  refine s_pf (own := RX9) (C := RX9) (T := TX9) (N := 13) (ci := 9) (ws1 := (W_M cy aM mM_20 inM)) hx hb hts iX9 tyX9 tyX9_ok nmX9 hown hK hP hD hS 0 rfl rfl 8 (by decide) f43 rfl rfl rfl rfl (Nat.le_of_ble_eq_true rfl) (by rw [e_mM_20]; rfl) dX9_execute_2 (fun H locs hP hD hS => ?_)
  refine lv_aload_n hx hb dX9_execute_5 rfl (lv_at hl 0 rfl) ?_
  obtain ⟨r_21, mM_22, hc_23, hE⟩ := bd2_el hE
  refine ki (X := []) (Y := []) (ws1 := (W_M cy aM mM_22 inM)) (rV (X := []) (Y := []) (As := []) (rest := []) hC (c_X9_error l D cy aM mM_20 inM r_21 mM_22 hc_23) (cwV 0 hts gX9_execute_X9_error rfl rfl rfl cd_X9_error ⟨Nat.le_of_ble_eq_true rfl, Nat.le_of_ble_eq_true rfl⟩) hK hN hP hD hS hA rfl 0 9 rfl rfl rfl hl.1 rfl (lv_room (Nat.le_of_ble_eq_true rfl)) dX9_execute_6 ⟨Nat.le_of_ble_eq_true rfl, Nat.le_of_ble_eq_true rfl⟩) hP hD hS hA rfl rfl rfl (fun H locs hP hD hS => ?_)
  refine lv_iconst (v := (-1)) hx hb dX9_execute_9 (by decide) ?_
  refine lv_icmp_eq (tgt := 19) hx hb dX9_execute_10 (by decide) (fun c_24 => ?_) (fun c_24 => ?_)
  · replace hE := it_t hE c_24
    refine lv_aload_n hx hb dX9_execute_19 rfl (lv_at hl 0 rfl) ?_
    obtain ⟨mM_25, nM_26, hc_27, hE⟩ := bd2_el hE
    refine kv (X := []) (Y := []) (ws1 := (W_M cy aM mM_25 nM_26)) (rV (X := []) (Y := []) (As := []) (rest := []) hC (c_X9_save l D cy aM mM_22 inM mM_25 nM_26 hc_27) (cwV 0 hts gX9_execute_X9_save rfl rfl rfl cd_X9_save ⟨Nat.le_of_ble_eq_true rfl, Nat.le_of_ble_eq_true rfl⟩) hK hN hP hD hS hA rfl 0 9 rfl rfl rfl hl.1 rfl (lv_room (Nat.le_of_ble_eq_true rfl)) dX9_execute_20 ⟨Nat.le_of_ble_eq_true rfl, Nat.le_of_ble_eq_true rfl⟩) hP hD hS hA rfl rfl rfl (fun H locs hP hD hS => ?_)
    refine lv_iconst (v := 0) hx hb dX9_execute_23 (by decide) ?_
    refine lv_istore_n (lv' := [(1, .int (0 : Int32)), (0, .ref (aM 0))]) hx hb dX9_execute_24 rfl hl (by decide) rfl (fun ls hl => ?_)
    refine lv_aload_n hx hb dX9_execute_25 rfl (lv_at hl 1 rfl) ?_
    refine va_get (D := D) (ci := 9) (v := .int (mM_25 7 0)) (C := RX9) (T := TX9) (N := 13) hx hb hts iX9 hown hK hP 0 rfl rfl 7 (by decide) f246 (fun _ h9 => h9) rfl dX9_execute_26 ?_
    refine lv_if_le (tgt := 36) hx hb dX9_execute_29 (by decide) (fun c_28 => ?_) (fun c_28 => ?_)
    · replace hE := it_t hE c_28
      refine lv_iconst (v := 0) hx hb dX9_execute_36 (by decide) ?_
      exact h37 (0 : Int32) (0 : Int32) mM_25 nM_26 _ _ _ hE hP hD hS (lv_sub hl [1, 0] rfl)
    · replace hE := it_f hE c_28
      refine lv_iconst (v := 1) hx hb dX9_execute_32 (by decide) ?_
      refine lv_goto (tgt := 37) hx hb dX9_execute_33 (by decide) ?_
      exact h37 (0 : Int32) (1 : Int32) mM_25 nM_26 _ _ _ hE hP hD hS (lv_sub hl [1, 0] rfl)
  · replace hE := it_f hE c_24
    refine lv_aload_n hx hb dX9_execute_13 rfl (lv_at hl 0 rfl) ?_
    refine lv_iconst (v := 1) hx hb dX9_execute_14 (by decide) ?_
    obtain ⟨r_29, mM_30, hc_31, hE⟩ := bd2_el hE
    refine ki (X := []) (Y := []) (ws1 := (W_M cy aM mM_30 inM)) (rV (X := []) (Y := []) (As := [.int (1 : Int32)]) (rest := []) hC (c_X9_refuse l D cy aM (1 : Int32) mM_22 inM r_29 mM_30 hc_31) (cwV 1 hts gX9_execute_X9_refuse rfl rfl rfl cd_X9_refuse ⟨Nat.le_of_ble_eq_true rfl, Nat.le_of_ble_eq_true rfl⟩) hK hN hP hD hS hA rfl 0 9 rfl rfl rfl hl.1 rfl (lv_room (Nat.le_of_ble_eq_true rfl)) dX9_execute_15 ⟨Nat.le_of_ble_eq_true rfl, Nat.le_of_ble_eq_true rfl⟩) hP hD hS hA rfl rfl rfl (fun H locs hP hD hS => ?_)
    have hE := Option.some.inj hE
    obtain ⟨q0, hE⟩ := Prod.mk.inj hE
    obtain ⟨q1, q2⟩ := Prod.mk.inj hE
    exact ei hx hb hr hlocks hK hP hD hS q0 (by rw [q1, q2]) dX9_execute_18
abbrev rm_X9_undo : Room := { frames := 1, cells := 0, slots := 0, locals := 21 }
set_option maxHeartbeats 40000000 in
set_option maxRecDepth 100000 in
theorem c_X9_undo (l : Launch) (D : va_G) (cy : Nat → Nat) (aM : Nat → Nat) (imM : Mem) (inM : MemL) (r' : Int32) (mM' : Mem) (nM' : MemL) (hE : f_X9_undo imM inM = some (r', mM', nM')) : CI l yX9_undo wsX9_undo rm_X9_undo D cy [.ref (aM 0)] (W_M cy aM imM inM) 0 0 r' (W_M cy aM mM' nM') := by
  refine CQ_of (cc := cX9_undo) (maxL := 2) (ret := (some .int)) (by decide) rfl (Nat.le_of_ble_eq_true rfl) (fun p e s m args below meth c A ls hx hb hr hml hlocks hnm hown hts hA hK hN hP hD hS hl => ?_)
  have hown : s.vm.findClass RX9 = some m.cls := hown
  have hl : lv_has ls 2 [(0, .ref (aM 0))] := hl
  have hC : CallFix p m c cX9_undo 2 s args wsX9_undo RX9 := ⟨hx, hb, hml, hown, hts⟩
  have f7 : (Cond.fieldLink RX9 7 "IcePlantModel" "w" "[J").before args s = true := hts _ (mC qf_X9_7)
  have f13 : (Cond.fieldLink RX9 13 "IcePlantModel" "saved" "[J").before args s = true := hts _ (mC qf_X9_13)
  have f43 : (Cond.fieldLink RX9 43 "IcePlantModel" "thrown" "I").before args s = true := hts _ (mC qf_X9_43)
  have f51 : (Cond.fieldLink RX9 51 "IcePlantModel" "savedMany" "I").before args s = true := hts _ (mC qf_X9_51)
  have iX9 : ∀ w ∈ wsX90, w ∈ wsX9_undo := fun w h => mC (iA_X9 w h)
  have h30 : ∀ (mM : Mem), ∀ (n : Nat), ∀ (x1 : Int32) (nM : MemL) (H : Heap) (locs : List Loc) (ls : Array Slot), f_X9_undo_L30 mM n x1 nM = some (r', mM', nM') → va_P D vwCl (W_M cy aM mM nM) H → va_D A (W_M cy aM mM nM) → va_S A s.heap H locs → lv_has ls 2 [(0, .ref (aM 0)), (1, .int x1)] → W p l e rm_X9_undo s m args below meth c H locs 0 0 (MQ below (QI D cy r' (W_M cy aM mM' nM') A) args s 0 0 A) (F0 m 30 ls []) := by
    intro mM n
    induction n with
    | zero => intro x1 nM H locs ls hE; exact absurd hE (fun h9 => nomatch h9)
    | succ n ih =>
      intro x1 nM H locs ls hE hP hD hS hl
      replace hE : ((if (1888 : Int32) ≤ x1 then some ((mM 6 0), mM, nM) else gi (((mM 6 0) * (1888 : Int32)) + x1) 15104 (gi x1 1888 (lt' (wrL nM 0 (vp_updL (nM 0) x1.toNatClampNeg (nM 1 (((mM 6 0) * (1888 : Int32)) + x1).toNatClampNeg))) fun nM_3 => lt' (x1 + (1 : Int32)) fun x1_5 => (f_X9_undo_L30 mM n) x1_5 nM_3)))) = some (r', mM', nM') := hE
      refine lv_iload_n hx hb dX9_undo_30 rfl (lv_at hl 1 rfl) ?_
      refine lv_sipush (v := 1888) hx hb dX9_undo_31 (by decide) ?_
      refine lv_icmp_ge (tgt := 64) hx hb dX9_undo_34 (by decide) (fun c_1 => ?_) (fun c_1 => ?_)
      · replace hE := it_t hE c_1
        refine lv_aload_n hx hb dX9_undo_64 rfl (lv_at hl 0 rfl) ?_
        refine va_get (D := D) (ci := 9) (v := .int (mM 6 0)) (C := RX9) (T := TX9) (N := 13) hx hb hts iX9 hown hK hP 0 rfl rfl 6 (by decide) f51 (fun _ h9 => h9) rfl dX9_undo_65 ?_
        have hE := Option.some.inj hE
        obtain ⟨q0, hE⟩ := Prod.mk.inj hE
        obtain ⟨q1, q2⟩ := Prod.mk.inj hE
        exact ei hx hb hr hlocks hK hP hD hS q0 (by rw [q1, q2]) dX9_undo_68
      · replace hE := it_f hE c_1
        refine lv_aload_n hx hb dX9_undo_37 rfl (lv_at hl 0 rfl) ?_
        refine va_get (D := D) (ci := 9) (v := .ref (aM 1)) (C := RX9) (T := TX9) (N := 13) hx hb hts iX9 hown hK hP 0 rfl rfl 0 (by decide) f7 (fun _ h9 => h9) rfl dX9_undo_38 ?_
        refine lv_iload_n hx hb dX9_undo_41 rfl (lv_at hl 1 rfl) ?_
        refine lv_aload_n hx hb dX9_undo_42 rfl (lv_at hl 0 rfl) ?_
        refine va_get (D := D) (ci := 9) (v := .ref (aM 2)) (C := RX9) (T := TX9) (N := 13) hx hb hts iX9 hown hK hP 0 rfl rfl 1 (by decide) f13 (fun _ h9 => h9) rfl dX9_undo_43 ?_
        refine lv_aload_n hx hb dX9_undo_46 rfl (lv_at hl 0 rfl) ?_
        refine va_get (D := D) (ci := 9) (v := .int (mM 6 0)) (C := RX9) (T := TX9) (N := 13) hx hb hts iX9 hown hK hP 0 rfl rfl 6 (by decide) f51 (fun _ h9 => h9) rfl dX9_undo_47 ?_
        refine lv_sipush (v := 1888) hx hb dX9_undo_50 (by decide) ?_
        refine lv_imul hx hb dX9_undo_53 ?_
        refine lv_iload_n hx hb dX9_undo_54 rfl (lv_at hl 1 rfl) ?_
        refine lv_iadd hx hb dX9_undo_55 ?_
        obtain ⟨g_2, hE⟩ := gi_el hE
        refine va_lald hx hb hK hP 2 1 rfl rfl g_2 dX9_undo_56 ?_
        obtain ⟨g_4, hE⟩ := gi_el hE
        obtain ⟨nM_3, e_nM_3, hE⟩ := lt_el hE
        refine s_la (ws1 := (W_M cy aM mM nM_3)) hx hb hK hP hD hS 1 rfl g_4 (by rw [e_nM_3]; rfl) dX9_undo_57 (fun H locs hP hD hS => ?_)
        obtain ⟨x1_5, e_x1_5, hE⟩ := lt_el hE
        refine lv_iinc (v := x1_5) (lv' := [(1, .int x1_5), (0, .ref (aM 0))]) hx hb dX9_undo_58 hl (k := 1) rfl (by rw [e_x1_5]; rfl) (by decide) rfl (fun ls hl => ?_)
        refine lv_goto (tgt := 30) hx hb dX9_undo_61 (by decide) ?_
        exact ih x1_5 nM_3 _ _ _ hE hP hD hS (lv_sub hl [1, 0] rfl)
  unfold f_X9_undo at hE
  refine lv_aload_n hx hb dX9_undo_0 rfl (lv_at hl 0 rfl) ?_
  refine lv_iconst (v := 0) hx hb dX9_undo_1 (by decide) ?_
  obtain ⟨mM_6, e_mM_6, hE⟩ := lt_el hE
  refine s_pf (own := RX9) (C := RX9) (T := TX9) (N := 13) (ci := 9) (ws1 := (W_M cy aM mM_6 inM)) hx hb hts iX9 tyX9 tyX9_ok nmX9 hown hK hP hD hS 0 rfl rfl 8 (by decide) f43 rfl rfl rfl rfl (Nat.le_of_ble_eq_true rfl) (by rw [e_mM_6]; rfl) dX9_undo_2 (fun H locs hP hD hS => ?_)
  refine lv_aload_n hx hb dX9_undo_5 rfl (lv_at hl 0 rfl) ?_
  refine va_get (D := D) (ci := 9) (v := .int (mM_6 6 0)) (C := RX9) (T := TX9) (N := 13) hx hb hts iX9 hown hK hP 0 rfl rfl 6 (by decide) f51 (fun _ h9 => h9) rfl dX9_undo_6 ?_
  refine lv_if_ne (tgt := 18) hx hb dX9_undo_9 (by decide) (fun c_7 => ?_) (fun c_7 => ?_)
  · replace hE := it_f hE c_7
    refine lv_aload_n hx hb dX9_undo_18 rfl (lv_at hl 0 rfl) ?_
    refine lv_dup hx hb dX9_undo_19 rfl ?_
    refine va_get (D := D) (ci := 9) (v := .int (mM_6 6 0)) (C := RX9) (T := TX9) (N := 13) hx hb hts iX9 hown hK hP 0 rfl rfl 6 (by decide) f51 (fun _ h9 => h9) rfl dX9_undo_20 ?_
    refine lv_iconst (v := 1) hx hb dX9_undo_23 (by decide) ?_
    refine lv_isub hx hb dX9_undo_24 ?_
    obtain ⟨mM_8, e_mM_8, hE⟩ := lt_el hE
    refine s_pf (own := RX9) (C := RX9) (T := TX9) (N := 13) (ci := 9) (ws1 := (W_M cy aM mM_8 inM)) hx hb hts iX9 tyX9 tyX9_ok nmX9 hown hK hP hD hS 0 rfl rfl 6 (by decide) f51 rfl rfl rfl rfl (Nat.le_of_ble_eq_true rfl) (by rw [e_mM_8]; rfl) dX9_undo_25 (fun H locs hP hD hS => ?_)
    refine lv_iconst (v := 0) hx hb dX9_undo_28 (by decide) ?_
    refine lv_istore_n (lv' := [(1, .int (0 : Int32)), (0, .ref (aM 0))]) hx hb dX9_undo_29 rfl hl (by decide) rfl (fun ls hl => ?_)
    exact h30 mM_8 fuel (0 : Int32) inM _ _ _ hE hP hD hS (lv_sub hl [1, 0] rfl)
  · replace hE := it_t hE c_7
    refine lv_aload_n hx hb dX9_undo_12 rfl (lv_at hl 0 rfl) ?_
    refine lv_iconst (v := 1) hx hb dX9_undo_13 (by decide) ?_
    obtain ⟨r_9, mM_10, hc_11, hE⟩ := bd2_el hE
    refine ki (X := []) (Y := []) (ws1 := (W_M cy aM mM_10 inM)) (rV (X := []) (Y := []) (As := [.int (1 : Int32)]) (rest := []) hC (c_X9_refuse l D cy aM (1 : Int32) mM_6 inM r_9 mM_10 hc_11) (cwV 1 hts gX9_undo_X9_refuse rfl rfl rfl cd_X9_refuse ⟨Nat.le_of_ble_eq_true rfl, Nat.le_of_ble_eq_true rfl⟩) hK hN hP hD hS hA rfl 0 9 rfl rfl rfl hl.1 rfl (lv_room (Nat.le_of_ble_eq_true rfl)) dX9_undo_14 ⟨Nat.le_of_ble_eq_true rfl, Nat.le_of_ble_eq_true rfl⟩) hP hD hS hA rfl rfl rfl (fun H locs hP hD hS => ?_)
    have hE := Option.some.inj hE
    obtain ⟨q0, hE⟩ := Prod.mk.inj hE
    obtain ⟨q1, q2⟩ := Prod.mk.inj hE
    exact ei hx hb hr hlocks hK hP hD hS q0 (by rw [q1, q2]) dX9_undo_17
