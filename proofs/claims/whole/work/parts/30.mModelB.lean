abbrev rm_X9_isBefore : Room := { frames := 1, cells := 0, slots := 0, locals := 23 }
set_option maxHeartbeats 40000000 in
set_option maxRecDepth 100000 in
theorem c_X9_isBefore (l : Launch) (D : va_G) (cy : Nat → Nat) (aM : Nat → Nat) (x1 : Int32) (x2 : Int32) (imM : Mem) (inM : MemL) (r' : Int32) (hE : f_X9_isBefore x1 x2 imM inM = some r') : CI l yX9_isBefore wsX9_isBefore rm_X9_isBefore D cy [.ref (aM 0), .int x1, .int x2] (W_M cy aM imM inM) 0 0 r' (W_M cy aM imM inM) := by
  refine CQ_of (cc := cX9_isBefore) (maxL := 7) (ret := (some .boolean)) (by decide) rfl (Nat.le_of_ble_eq_true rfl) (fun p e s m args below meth c A ls hx hb hr hml hlocks hnm hown hts hA hK hN hP hD hS hl => ?_)
  have hown : s.vm.findClass RX9 = some m.cls := hown
  have hl : lv_has ls 7 [(0, .ref (aM 0)), (1, .int x1), (2, .int x2)] := hl
  have hC : CallFix p m c cX9_isBefore 7 s args wsX9_isBefore RX9 := ⟨hx, hb, hml, hown, hts⟩
  have f7 : (Cond.fieldLink RX9 7 "IcePlantModel" "w" "[J").before args s = true := hts _ (mC qf_X9_7)
  have iX9 : ∀ w ∈ wsX90, w ∈ wsX9_isBefore := fun w h => mC (iA_X9 w h)
  have k31 : (Cond.constantLong RX9 31 (2)).before args s = true := hts _ (mC qk_X9_31)
  have k56 : (Cond.constantLong RX9 56 (3)).before args s = true := hts _ (mC qk_X9_56)
  have h128 : ∀  (H : Heap) (locs : List Loc) (ls : Array Slot), f_X9_isBefore_b128 imM inM = some r' → va_P D vwCl (W_M cy aM imM inM) H → va_D A (W_M cy aM imM inM) → va_S A s.heap H locs → lv_has ls 7 [] → W p l e rm_X9_isBefore s m args below meth c H locs 0 0 (MQ below (QI D cy r' (W_M cy aM imM inM) A) args s 0 0 A) (F0 m 128 ls []) := by
    intro  H locs ls hE hP hD hS hl
    replace hE : (some (1 : Int32)) = some r' := hE
    refine lv_iconst (v := 1) hx hb dX9_isBefore_128 (by decide) ?_
    refine lv_goto (tgt := 133) hx hb dX9_isBefore_129 (by decide) ?_
    have hE := Option.some.inj hE
    exact ez hx hb hr (by decide) hlocks hK hP hD hS hE rfl dX9_isBefore_133
  have h109 : ∀ (x1 : Int32) (x2 : Int32) (x3 : Int64) (x5 : Int64), ∀  (H : Heap) (locs : List Loc) (ls : Array Slot), f_X9_isBefore_b109 x1 x2 x3 x5 imM inM = some r' → va_P D vwCl (W_M cy aM imM inM) H → va_D A (W_M cy aM imM inM) → va_S A s.heap H locs → lv_has ls 7 [(1, .int x1), (2, .int x2), (3, .long x3), (5, .long x5)] → W p l e rm_X9_isBefore s m args below meth c H locs 0 0 (MQ below (QI D cy r' (W_M cy aM imM inM) A) args s 0 0 A) (F0 m 109 ls []) := by
    intro x1 x2 x3 x5 H locs ls hE hP hD hS hl
    replace hE : ((if (lg_cmp x3 x5) < 0 then f_X9_isBefore_b128 imM inM else (if (lg_cmp x3 x5) = 0 then (if x2 ≤ x1 then some (0 : Int32) else f_X9_isBefore_b128 imM inM) else some (0 : Int32)))) = some r' := hE
    refine lv_lload_n hx hb dX9_isBefore_109 rfl (lv_at hl 2 rfl) ?_
    refine lv_lload hx hb dX9_isBefore_110 (lv_at hl 3 rfl) ?_
    refine W.lcmp hx hb dX9_isBefore_112 ?_
    refine lv_if_lt (tgt := 128) hx hb dX9_isBefore_113 (by decide) (fun c_1 => ?_) (fun c_1 => ?_)
    · replace hE := it_t hE c_1
      exact h128  _ _ _ hE hP hD hS (lv_sub hl [] rfl)
    · replace hE := it_f hE c_1
      refine lv_lload_n hx hb dX9_isBefore_116 rfl (lv_at hl 2 rfl) ?_
      refine lv_lload hx hb dX9_isBefore_117 (lv_at hl 3 rfl) ?_
      refine W.lcmp hx hb dX9_isBefore_119 ?_
      refine lv_if_ne (tgt := 132) hx hb dX9_isBefore_120 (by decide) (fun c_2 => ?_) (fun c_2 => ?_)
      · replace hE := it_f hE c_2
        refine lv_iconst (v := 0) hx hb dX9_isBefore_132 (by decide) ?_
        have hE := Option.some.inj hE
        exact ez hx hb hr (by decide) hlocks hK hP hD hS hE rfl dX9_isBefore_133
      · replace hE := it_t hE c_2
        refine lv_iload_n hx hb dX9_isBefore_123 rfl (lv_at hl 0 rfl) ?_
        refine lv_iload_n hx hb dX9_isBefore_124 rfl (lv_at hl 1 rfl) ?_
        refine lv_icmp_ge (tgt := 132) hx hb dX9_isBefore_125 (by decide) (fun c_3 => ?_) (fun c_3 => ?_)
        · replace hE := it_t hE c_3
          refine lv_iconst (v := 0) hx hb dX9_isBefore_132 (by decide) ?_
          have hE := Option.some.inj hE
          exact ez hx hb hr (by decide) hlocks hK hP hD hS hE rfl dX9_isBefore_133
        · replace hE := it_f hE c_3
          exact h128  _ _ _ hE hP hD hS (lv_sub hl [] rfl)
  unfold f_X9_isBefore at hE
  refine lv_lconst (v := 0) hx hb dX9_isBefore_0 (by decide) ?_
  refine lv_lstore_n (lv' := [(3, .long (0 : Int64)), (0, .ref (aM 0)), (1, .int x1), (2, .int x2)]) hx hb dX9_isBefore_1 rfl hl (by decide) rfl (fun ls hl => ?_)
  refine lv_lconst (v := 0) hx hb dX9_isBefore_2 (by decide) ?_
  refine lv_lstore (lv' := [(5, .long (0 : Int64)), (3, .long (0 : Int64)), (0, .ref (aM 0)), (1, .int x1), (2, .int x2)]) hx hb dX9_isBefore_3 hl (by decide) rfl (fun ls hl => ?_)
  refine lv_aload_n hx hb dX9_isBefore_5 rfl (lv_at hl 2 rfl) ?_
  refine va_get (D := D) (ci := 9) (v := .ref (aM 1)) (C := RX9) (T := TX9) (N := 13) hx hb hts iX9 hown hK hP 0 rfl rfl 0 (by decide) f7 (fun _ h9 => h9) rfl dX9_isBefore_6 ?_
  refine lv_iconst (v := 2) hx hb dX9_isBefore_9 (by decide) ?_
  refine va_lald hx hb hK hP 1 1 rfl rfl (show ¬ ((2 : Int32) < 0 ∨ 1888 ≤ (2 : Int32).toNatClampNeg) by decide) dX9_isBefore_10 ?_
  refine lv_lconst (v := 1) hx hb dX9_isBefore_11 (by decide) ?_
  refine W.lcmp hx hb dX9_isBefore_12 ?_
  refine lv_if_ne (tgt := 32) hx hb dX9_isBefore_13 (by decide) (fun c_4 => ?_) (fun c_4 => ?_)
  · replace hE := it_f hE c_4
    refine lv_aload_n hx hb dX9_isBefore_32 rfl (lv_at hl 2 rfl) ?_
    refine va_get (D := D) (ci := 9) (v := .ref (aM 1)) (C := RX9) (T := TX9) (N := 13) hx hb hts iX9 hown hK hP 0 rfl rfl 0 (by decide) f7 (fun _ h9 => h9) rfl dX9_isBefore_33 ?_
    refine lv_iconst (v := 2) hx hb dX9_isBefore_36 (by decide) ?_
    refine va_lald hx hb hK hP 1 1 rfl rfl (show ¬ ((2 : Int32) < 0 ∨ 1888 ≤ (2 : Int32).toNatClampNeg) by decide) dX9_isBefore_37 ?_
    refine lv_ldc2 hx hb hown k31 dX9_isBefore_38 ?_
    refine W.lcmp hx hb dX9_isBefore_41 ?_
    refine lv_if_ne (tgt := 71) hx hb dX9_isBefore_42 (by decide) (fun c_5 => ?_) (fun c_5 => ?_)
    · replace hE := it_f hE c_5
      refine lv_aload_n hx hb dX9_isBefore_71 rfl (lv_at hl 2 rfl) ?_
      refine va_get (D := D) (ci := 9) (v := .ref (aM 1)) (C := RX9) (T := TX9) (N := 13) hx hb hts iX9 hown hK hP 0 rfl rfl 0 (by decide) f7 (fun _ h9 => h9) rfl dX9_isBefore_72 ?_
      refine lv_iconst (v := 2) hx hb dX9_isBefore_75 (by decide) ?_
      refine va_lald hx hb hK hP 1 1 rfl rfl (show ¬ ((2 : Int32) < 0 ∨ 1888 ≤ (2 : Int32).toNatClampNeg) by decide) dX9_isBefore_76 ?_
      refine lv_ldc2 hx hb hown k56 dX9_isBefore_77 ?_
      refine W.lcmp hx hb dX9_isBefore_80 ?_
      refine lv_if_ne (tgt := 109) hx hb dX9_isBefore_81 (by decide) (fun c_6 => ?_) (fun c_6 => ?_)
      · replace hE := it_f hE c_6
        exact h109 x1 x2 (0 : Int64) (0 : Int64) _ _ _ hE hP hD hS (lv_sub hl [3, 4, 1, 0] rfl)
      · replace hE := it_t hE c_6
        refine lv_aload_n hx hb dX9_isBefore_84 rfl (lv_at hl 2 rfl) ?_
        refine lv_iload_n hx hb dX9_isBefore_85 rfl (lv_at hl 4 rfl) ?_
        obtain ⟨r_7, hc_8, hE⟩ := bd1_el hE
        refine kl (X := []) (Y := []) (ws1 := (W_M cy aM imM inM)) (rV (X := []) (Y := []) (As := [.int x2]) (rest := []) hC (c_X9_catchOf l D cy aM x2 imM inM r_7 hc_8) (cwV 1 hts gX9_isBefore_X9_catchOf rfl rfl rfl cd_X9_catchOf ⟨Nat.le_of_ble_eq_true rfl, Nat.le_of_ble_eq_true rfl⟩) hK hN hP hD hS hA rfl 0 9 rfl rfl rfl hl.1 rfl (lv_room (Nat.le_of_ble_eq_true rfl)) dX9_isBefore_86 ⟨Nat.le_of_ble_eq_true rfl, Nat.le_of_ble_eq_true rfl⟩) hP hD hS hA rfl rfl rfl (fun H locs hP hD hS => ?_)
        refine lv_aload_n hx hb dX9_isBefore_89 rfl (lv_at hl 2 rfl) ?_
        refine lv_iload_n hx hb dX9_isBefore_90 rfl (lv_at hl 3 rfl) ?_
        obtain ⟨r_9, hc_10, hE⟩ := bd1_el hE
        refine kl (X := []) (Y := []) (ws1 := (W_M cy aM imM inM)) (rV (X := []) (Y := []) (As := [.int x1]) (rest := [.long r_7]) hC (c_X9_remaining l D cy aM x1 imM inM r_9 hc_10) (cwV 1 hts gX9_isBefore_X9_remaining rfl rfl rfl cd_X9_remaining ⟨Nat.le_of_ble_eq_true rfl, Nat.le_of_ble_eq_true rfl⟩) hK hN hP hD hS hA rfl 0 9 rfl rfl rfl hl.1 rfl (lv_room (Nat.le_of_ble_eq_true rfl)) dX9_isBefore_91 ⟨Nat.le_of_ble_eq_true rfl, Nat.le_of_ble_eq_true rfl⟩) hP hD hS hA rfl rfl rfl (fun H locs hP hD hS => ?_)
        refine lv_lmul hx hb dX9_isBefore_94 ?_
        obtain ⟨x3_11, e_x3_11, hE⟩ := lt_el hE
        refine s_nmL e_x3_11 ?_
        refine lv_lstore_n (lv' := [(3, .long x3_11), (5, .long (0 : Int64)), (0, .ref (aM 0)), (1, .int x1), (2, .int x2)]) hx hb dX9_isBefore_95 rfl hl (by decide) rfl (fun ls hl => ?_)
        refine lv_aload_n hx hb dX9_isBefore_96 rfl (lv_at hl 2 rfl) ?_
        refine lv_iload_n hx hb dX9_isBefore_97 rfl (lv_at hl 3 rfl) ?_
        obtain ⟨r_12, hc_13, hE⟩ := bd1_el hE
        refine kl (X := []) (Y := []) (ws1 := (W_M cy aM imM inM)) (rV (X := []) (Y := []) (As := [.int x1]) (rest := []) hC (c_X9_catchOf l D cy aM x1 imM inM r_12 hc_13) (cwV 1 hts gX9_isBefore_X9_catchOf rfl rfl rfl cd_X9_catchOf ⟨Nat.le_of_ble_eq_true rfl, Nat.le_of_ble_eq_true rfl⟩) hK hN hP hD hS hA rfl 0 9 rfl rfl rfl hl.1 rfl (lv_room (Nat.le_of_ble_eq_true rfl)) dX9_isBefore_98 ⟨Nat.le_of_ble_eq_true rfl, Nat.le_of_ble_eq_true rfl⟩) hP hD hS hA rfl rfl rfl (fun H locs hP hD hS => ?_)
        refine lv_aload_n hx hb dX9_isBefore_101 rfl (lv_at hl 2 rfl) ?_
        refine lv_iload_n hx hb dX9_isBefore_102 rfl (lv_at hl 4 rfl) ?_
        obtain ⟨r_14, hc_15, hE⟩ := bd1_el hE
        refine kl (X := []) (Y := []) (ws1 := (W_M cy aM imM inM)) (rV (X := []) (Y := []) (As := [.int x2]) (rest := [.long r_12]) hC (c_X9_remaining l D cy aM x2 imM inM r_14 hc_15) (cwV 1 hts gX9_isBefore_X9_remaining rfl rfl rfl cd_X9_remaining ⟨Nat.le_of_ble_eq_true rfl, Nat.le_of_ble_eq_true rfl⟩) hK hN hP hD hS hA rfl 0 9 rfl rfl rfl hl.1 rfl (lv_room (Nat.le_of_ble_eq_true rfl)) dX9_isBefore_103 ⟨Nat.le_of_ble_eq_true rfl, Nat.le_of_ble_eq_true rfl⟩) hP hD hS hA rfl rfl rfl (fun H locs hP hD hS => ?_)
        refine lv_lmul hx hb dX9_isBefore_106 ?_
        obtain ⟨x5_16, e_x5_16, hE⟩ := lt_el hE
        refine s_nmL e_x5_16 ?_
        refine lv_lstore (lv' := [(5, .long x5_16), (3, .long x3_11), (0, .ref (aM 0)), (1, .int x1), (2, .int x2)]) hx hb dX9_isBefore_107 hl (by decide) rfl (fun ls hl => ?_)
        exact h109 x1 x2 x3_11 x5_16 _ _ _ hE hP hD hS (lv_sub hl [3, 4, 1, 0] rfl)
    · replace hE := it_t hE c_5
      refine lv_aload_n hx hb dX9_isBefore_45 rfl (lv_at hl 2 rfl) ?_
      refine va_get (D := D) (ci := 9) (v := .ref (aM 1)) (C := RX9) (T := TX9) (N := 13) hx hb hts iX9 hown hK hP 0 rfl rfl 0 (by decide) f7 (fun _ h9 => h9) rfl dX9_isBefore_46 ?_
      refine lv_sipush (v := 1131) hx hb dX9_isBefore_49 (by decide) ?_
      refine lv_iload_n hx hb dX9_isBefore_52 rfl (lv_at hl 3 rfl) ?_
      refine lv_iadd hx hb dX9_isBefore_53 ?_
      obtain ⟨g_17, hE⟩ := gi_el hE
      refine va_lald hx hb hK hP 1 1 rfl rfl g_17 dX9_isBefore_54 ?_
      obtain ⟨x3_18, e_x3_18, hE⟩ := lt_el hE
      refine s_nmL e_x3_18 ?_
      refine lv_lstore_n (lv' := [(3, .long x3_18), (5, .long (0 : Int64)), (0, .ref (aM 0)), (1, .int x1), (2, .int x2)]) hx hb dX9_isBefore_55 rfl hl (by decide) rfl (fun ls hl => ?_)
      refine lv_aload_n hx hb dX9_isBefore_56 rfl (lv_at hl 2 rfl) ?_
      refine va_get (D := D) (ci := 9) (v := .ref (aM 1)) (C := RX9) (T := TX9) (N := 13) hx hb hts iX9 hown hK hP 0 rfl rfl 0 (by decide) f7 (fun _ h9 => h9) rfl dX9_isBefore_57 ?_
      refine lv_sipush (v := 1131) hx hb dX9_isBefore_60 (by decide) ?_
      refine lv_iload_n hx hb dX9_isBefore_63 rfl (lv_at hl 4 rfl) ?_
      refine lv_iadd hx hb dX9_isBefore_64 ?_
      obtain ⟨g_19, hE⟩ := gi_el hE
      refine va_lald hx hb hK hP 1 1 rfl rfl g_19 dX9_isBefore_65 ?_
      obtain ⟨x5_20, e_x5_20, hE⟩ := lt_el hE
      refine s_nmL e_x5_20 ?_
      refine lv_lstore (lv' := [(5, .long x5_20), (3, .long x3_18), (0, .ref (aM 0)), (1, .int x1), (2, .int x2)]) hx hb dX9_isBefore_66 hl (by decide) rfl (fun ls hl => ?_)
      refine lv_goto (tgt := 109) hx hb dX9_isBefore_68 (by decide) ?_
      exact h109 x1 x2 x3_18 x5_20 _ _ _ hE hP hD hS (lv_sub hl [3, 4, 1, 0] rfl)
  · replace hE := it_t hE c_4
    refine lv_aload_n hx hb dX9_isBefore_16 rfl (lv_at hl 2 rfl) ?_
    refine lv_iload_n hx hb dX9_isBefore_17 rfl (lv_at hl 4 rfl) ?_
    obtain ⟨r_21, hc_22, hE⟩ := bd1_el hE
    refine kl (X := []) (Y := []) (ws1 := (W_M cy aM imM inM)) (rV (X := []) (Y := []) (As := [.int x2]) (rest := []) hC (c_X9_catchOf l D cy aM x2 imM inM r_21 hc_22) (cwV 1 hts gX9_isBefore_X9_catchOf rfl rfl rfl cd_X9_catchOf ⟨Nat.le_of_ble_eq_true rfl, Nat.le_of_ble_eq_true rfl⟩) hK hN hP hD hS hA rfl 0 9 rfl rfl rfl hl.1 rfl (lv_room (Nat.le_of_ble_eq_true rfl)) dX9_isBefore_18 ⟨Nat.le_of_ble_eq_true rfl, Nat.le_of_ble_eq_true rfl⟩) hP hD hS hA rfl rfl rfl (fun H locs hP hD hS => ?_)
    refine lv_lstore_n (lv' := [(3, .long r_21), (5, .long (0 : Int64)), (0, .ref (aM 0)), (1, .int x1), (2, .int x2)]) hx hb dX9_isBefore_21 rfl hl (by decide) rfl (fun ls hl => ?_)
    refine lv_aload_n hx hb dX9_isBefore_22 rfl (lv_at hl 2 rfl) ?_
    refine lv_iload_n hx hb dX9_isBefore_23 rfl (lv_at hl 3 rfl) ?_
    obtain ⟨r_23, hc_24, hE⟩ := bd1_el hE
    refine kl (X := []) (Y := []) (ws1 := (W_M cy aM imM inM)) (rV (X := []) (Y := []) (As := [.int x1]) (rest := []) hC (c_X9_catchOf l D cy aM x1 imM inM r_23 hc_24) (cwV 1 hts gX9_isBefore_X9_catchOf rfl rfl rfl cd_X9_catchOf ⟨Nat.le_of_ble_eq_true rfl, Nat.le_of_ble_eq_true rfl⟩) hK hN hP hD hS hA rfl 0 9 rfl rfl rfl hl.1 rfl (lv_room (Nat.le_of_ble_eq_true rfl)) dX9_isBefore_24 ⟨Nat.le_of_ble_eq_true rfl, Nat.le_of_ble_eq_true rfl⟩) hP hD hS hA rfl rfl rfl (fun H locs hP hD hS => ?_)
    refine lv_lstore (lv' := [(5, .long r_23), (3, .long r_21), (0, .ref (aM 0)), (1, .int x1), (2, .int x2)]) hx hb dX9_isBefore_27 hl (by decide) rfl (fun ls hl => ?_)
    refine lv_goto (tgt := 109) hx hb dX9_isBefore_29 (by decide) ?_
    exact h109 x1 x2 r_21 r_23 _ _ _ hE hP hD hS (lv_sub hl [3, 4, 1, 0] rfl)
abbrev rm_X9_aheadOf : Room := { frames := 2, cells := 0, slots := 0, locals := 49 }
set_option maxHeartbeats 40000000 in
set_option maxRecDepth 100000 in
theorem c_X9_aheadOf (l : Launch) (D : va_G) (cy : Nat → Nat) (aM : Nat → Nat) (x1 : Int32) (imM : Mem) (inM : MemL) (r' : Int32) (hE : f_X9_aheadOf x1 imM inM = some r') : CI l yX9_aheadOf wsX9_aheadOf rm_X9_aheadOf D cy [.ref (aM 0), .int x1] (W_M cy aM imM inM) 0 0 r' (W_M cy aM imM inM) := by
  refine CQ_of (cc := cX9_aheadOf) (maxL := 4) (ret := (some .int)) (by decide) rfl (Nat.le_of_ble_eq_true rfl) (fun p e s m args below meth c A ls hx hb hr hml hlocks hnm hown hts hA hK hN hP hD hS hl => ?_)
  have hown : s.vm.findClass RX9 = some m.cls := hown
  have hl : lv_has ls 4 [(0, .ref (aM 0)), (1, .int x1)] := hl
  have hC : CallFix p m c cX9_aheadOf 4 s args wsX9_aheadOf RX9 := ⟨hx, hb, hml, hown, hts⟩
  have f7 : (Cond.fieldLink RX9 7 "IcePlantModel" "w" "[J").before args s = true := hts _ (mC qf_X9_7)
  have iX9 : ∀ w ∈ wsX90, w ∈ wsX9_aheadOf := fun w h => mC (iA_X9 w h)
  have h45 : ∀ (x1 : Int32) (x2 : Int32) (x3 : Int32), ∀ (k4 : (Int32 → Int32 → Option (Int32))), (∀ (x2 : Int32) (x3 : Int32) (H : Heap) (locs : List Loc) (ls : Array Slot), k4 x2 x3 = some r' → va_P D vwCl (W_M cy aM imM inM) H → va_D A (W_M cy aM imM inM) → va_S A s.heap H locs → lv_has ls 4 [(0, .ref (aM 0)), (1, .int x1), (2, .int x2), (3, .int x3)] → W p l e rm_X9_aheadOf s m args below meth c H locs 0 0 (MQ below (QI D cy r' (W_M cy aM imM inM) A) args s 0 0 A) (F0 m 4 ls [])) → ∀  (H : Heap) (locs : List Loc) (ls : Array Slot), f_X9_aheadOf_b45 k4 x1 x2 x3 imM inM = some r' → va_P D vwCl (W_M cy aM imM inM) H → va_D A (W_M cy aM imM inM) → va_S A s.heap H locs → lv_has ls 4 [(0, .ref (aM 0)), (1, .int x1), (2, .int x2), (3, .int x3)] → W p l e rm_X9_aheadOf s m args below meth c H locs 0 0 (MQ below (QI D cy r' (W_M cy aM imM inM) A) args s 0 0 A) (F0 m 45 ls []) := by
    intro x1 x2 x3 k4 hk4 H locs ls hE hP hD hS hl
    replace hE : (lt' (x3 + (1 : Int32)) fun x3_1 => k4 x2 x3_1) = some r' := hE
    obtain ⟨x3_1, e_x3_1, hE⟩ := lt_el hE
    refine lv_iinc (v := x3_1) (lv' := [(3, .int x3_1), (0, .ref (aM 0)), (1, .int x1), (2, .int x2)]) hx hb dX9_aheadOf_45 hl (k := 3) rfl (by rw [e_x3_1]; rfl) (by decide) rfl (fun ls hl => ?_)
    refine lv_goto (tgt := 4) hx hb dX9_aheadOf_48 (by decide) ?_
    exact hk4 x2 x3_1 _ _ _ hE hP hD hS (lv_sub hl [1, 2, 3, 0] rfl)
  have h4 : ∀ (x1 : Int32), ∀ (n : Nat), ∀ (x2 : Int32) (x3 : Int32) (H : Heap) (locs : List Loc) (ls : Array Slot), f_X9_aheadOf_L4 x1 imM inM n x2 x3 = some r' → va_P D vwCl (W_M cy aM imM inM) H → va_D A (W_M cy aM imM inM) → va_S A s.heap H locs → lv_has ls 4 [(0, .ref (aM 0)), (1, .int x1), (2, .int x2), (3, .int x3)] → W p l e rm_X9_aheadOf s m args below meth c H locs 0 0 (MQ below (QI D cy r' (W_M cy aM imM inM) A) args s 0 0 A) (F0 m 4 ls []) := by
    intro x1 n
    induction n with
    | zero => intro x2 x3 H locs ls hE; exact absurd hE (fun h9 => nomatch h9)
    | succ n ih =>
      intro x2 x3 H locs ls hE hP hD hS hl
      replace hE : ((if 0 ≤ (lg_cmp (x3.toInt64) (inM 0 (1882 : Int32).toNatClampNeg)) then some x2 else gi ((1531 : Int32) + x3) 1888 ((if (lg_cmp (inM 0 ((1531 : Int32) + x3).toNatClampNeg) (0 : Int64)) = 0 then bd1 (f_X9_isBefore x3 x1 imM inM) fun r_5 => (if r_5 = 0 then f_X9_aheadOf_b45 (f_X9_aheadOf_L4 x1 imM inM n) x1 x2 x3 imM inM else lt' (x2 + (1 : Int32)) fun x2_8 => f_X9_aheadOf_b45 (f_X9_aheadOf_L4 x1 imM inM n) x1 x2_8 x3 imM inM) else f_X9_aheadOf_b45 (f_X9_aheadOf_L4 x1 imM inM n) x1 x2 x3 imM inM)))) = some r' := hE
      refine lv_iload_n hx hb dX9_aheadOf_4 rfl (lv_at hl 3 rfl) ?_
      refine lv_i2l hx hb dX9_aheadOf_5 rfl ?_
      refine lv_aload_n hx hb dX9_aheadOf_6 rfl (lv_at hl 0 rfl) ?_
      refine va_get (D := D) (ci := 9) (v := .ref (aM 1)) (C := RX9) (T := TX9) (N := 13) hx hb hts iX9 hown hK hP 0 rfl rfl 0 (by decide) f7 (fun _ h9 => h9) rfl dX9_aheadOf_7 ?_
      refine lv_sipush (v := 1882) hx hb dX9_aheadOf_10 (by decide) ?_
      refine va_lald hx hb hK hP 1 1 rfl rfl (show ¬ ((1882 : Int32) < 0 ∨ 1888 ≤ (1882 : Int32).toNatClampNeg) by decide) dX9_aheadOf_13 ?_
      refine W.lcmp hx hb dX9_aheadOf_14 ?_
      refine lv_if_ge (tgt := 51) hx hb dX9_aheadOf_15 (by decide) (fun c_2 => ?_) (fun c_2 => ?_)
      · replace hE := it_t hE c_2
        refine lv_iload_n hx hb dX9_aheadOf_51 rfl (lv_at hl 2 rfl) ?_
        have hE := Option.some.inj hE
        exact ei hx hb hr hlocks hK hP hD hS hE rfl dX9_aheadOf_52
      · replace hE := it_f hE c_2
        refine lv_aload_n hx hb dX9_aheadOf_18 rfl (lv_at hl 0 rfl) ?_
        refine va_get (D := D) (ci := 9) (v := .ref (aM 1)) (C := RX9) (T := TX9) (N := 13) hx hb hts iX9 hown hK hP 0 rfl rfl 0 (by decide) f7 (fun _ h9 => h9) rfl dX9_aheadOf_19 ?_
        refine lv_sipush (v := 1531) hx hb dX9_aheadOf_22 (by decide) ?_
        refine lv_iload_n hx hb dX9_aheadOf_25 rfl (lv_at hl 3 rfl) ?_
        refine lv_iadd hx hb dX9_aheadOf_26 ?_
        obtain ⟨g_3, hE⟩ := gi_el hE
        refine va_lald hx hb hK hP 1 1 rfl rfl g_3 dX9_aheadOf_27 ?_
        refine lv_lconst (v := 0) hx hb dX9_aheadOf_28 (by decide) ?_
        refine W.lcmp hx hb dX9_aheadOf_29 ?_
        refine lv_if_ne (tgt := 45) hx hb dX9_aheadOf_30 (by decide) (fun c_4 => ?_) (fun c_4 => ?_)
        · replace hE := it_f hE c_4
          exact h45 x1 x2 x3 (f_X9_aheadOf_L4 x1 imM inM n) ih _ _ _ hE hP hD hS (lv_sub hl [0, 1, 2, 3] rfl)
        · replace hE := it_t hE c_4
          refine lv_aload_n hx hb dX9_aheadOf_33 rfl (lv_at hl 0 rfl) ?_
          refine lv_iload_n hx hb dX9_aheadOf_34 rfl (lv_at hl 3 rfl) ?_
          refine lv_iload_n hx hb dX9_aheadOf_35 rfl (lv_at hl 1 rfl) ?_
          obtain ⟨r_5, hc_6, hE⟩ := bd1_el hE
          refine ki (X := []) (Y := []) (ws1 := (W_M cy aM imM inM)) (rV (X := []) (Y := []) (As := [.int x3, .int x1]) (rest := []) hC (c_X9_isBefore l D cy aM x3 x1 imM inM r_5 hc_6) (cwV 2 hts gX9_aheadOf_X9_isBefore rfl rfl rfl cd_X9_isBefore ⟨Nat.le_of_ble_eq_true rfl, Nat.le_of_ble_eq_true rfl⟩) hK hN hP hD hS hA rfl 0 9 rfl rfl rfl hl.1 rfl (lv_room (Nat.le_of_ble_eq_true rfl)) dX9_aheadOf_36 ⟨Nat.le_of_ble_eq_true rfl, Nat.le_of_ble_eq_true rfl⟩) hP hD hS hA rfl rfl rfl (fun H locs hP hD hS => ?_)
          refine lv_if_eq (tgt := 45) hx hb dX9_aheadOf_39 (by decide) (fun c_7 => ?_) (fun c_7 => ?_)
          · replace hE := it_t hE c_7
            exact h45 x1 x2 x3 (f_X9_aheadOf_L4 x1 imM inM n) ih _ _ _ hE hP hD hS (lv_sub hl [0, 1, 2, 3] rfl)
          · replace hE := it_f hE c_7
            obtain ⟨x2_8, e_x2_8, hE⟩ := lt_el hE
            refine lv_iinc (v := x2_8) (lv' := [(2, .int x2_8), (0, .ref (aM 0)), (1, .int x1), (3, .int x3)]) hx hb dX9_aheadOf_42 hl (k := 2) rfl (by rw [e_x2_8]; rfl) (by decide) rfl (fun ls hl => ?_)
            exact h45 x1 x2_8 x3 (f_X9_aheadOf_L4 x1 imM inM n) ih _ _ _ hE hP hD hS (lv_sub hl [1, 2, 0, 3] rfl)
  unfold f_X9_aheadOf at hE
  refine lv_iconst (v := 0) hx hb dX9_aheadOf_0 (by decide) ?_
  refine lv_istore_n (lv' := [(2, .int (0 : Int32)), (0, .ref (aM 0)), (1, .int x1)]) hx hb dX9_aheadOf_1 rfl hl (by decide) rfl (fun ls hl => ?_)
  refine lv_iconst (v := 0) hx hb dX9_aheadOf_2 (by decide) ?_
  refine lv_istore_n (lv' := [(3, .int (0 : Int32)), (2, .int (0 : Int32)), (0, .ref (aM 0)), (1, .int x1)]) hx hb dX9_aheadOf_3 rfl hl (by decide) rfl (fun ls hl => ?_)
  exact h4 x1 fuel (0 : Int32) (0 : Int32) _ _ _ hE hP hD hS (lv_sub hl [2, 3, 1, 0] rfl)
abbrev rm_X9_stored : Room := { frames := 0, cells := 0, slots := 0, locals := 0 }
set_option maxHeartbeats 40000000 in
set_option maxRecDepth 100000 in
theorem c_X9_stored (l : Launch) (D : va_G) (cy : Nat → Nat) (aM : Nat → Nat) (imM : Mem) (inM : MemL) (r' : Int64) (hE : f_X9_stored imM inM = some r') : CL l yX9_stored wsX9_stored rm_X9_stored D cy [.ref (aM 0)] (W_M cy aM imM inM) 0 0 r' (W_M cy aM imM inM) := by
  refine CQ_of (cc := cX9_stored) (maxL := 5) (ret := (some .long)) (by decide) rfl (Nat.le_of_ble_eq_true rfl) (fun p e s m args below meth c A ls hx hb hr hml hlocks hnm hown hts hA hK hN hP hD hS hl => ?_)
  have hown : s.vm.findClass RX9 = some m.cls := hown
  have hl : lv_has ls 5 [(0, .ref (aM 0))] := hl
  have f7 : (Cond.fieldLink RX9 7 "IcePlantModel" "w" "[J").before args s = true := hts _ (mC qf_X9_7)
  have iX9 : ∀ w ∈ wsX90, w ∈ wsX9_stored := fun w h => mC (iA_X9 w h)
  have h21 : ∀ (x3 : Int32), ∀ (k4 : (Int64 → Int32 → Option (Int64))), (∀ (x1 : Int64) (x3 : Int32) (H : Heap) (locs : List Loc) (ls : Array Slot), k4 x1 x3 = some r' → va_P D vwCl (W_M cy aM imM inM) H → va_D A (W_M cy aM imM inM) → va_S A s.heap H locs → lv_has ls 5 [(0, .ref (aM 0)), (1, .long x1), (3, .int x3)] → W p l e rm_X9_stored s m args below meth c H locs 0 0 (MQ below (QL D cy r' (W_M cy aM imM inM) A) args s 0 0 A) (F0 m 4 ls [])) → ∀ (n : Nat), ∀ (x1 : Int64) (x4 : Int32) (H : Heap) (locs : List Loc) (ls : Array Slot), f_X9_stored_L21 k4 x3 imM inM n x1 x4 = some r' → va_P D vwCl (W_M cy aM imM inM) H → va_D A (W_M cy aM imM inM) → va_S A s.heap H locs → lv_has ls 5 [(0, .ref (aM 0)), (1, .long x1), (3, .int x3), (4, .int x4)] → W p l e rm_X9_stored s m args below meth c H locs 0 0 (MQ below (QL D cy r' (W_M cy aM imM inM) A) args s 0 0 A) (F0 m 21 ls []) := by
    intro x3 k4 hk4 n
    induction n with
    | zero => intro x1 x4 H locs ls hE; exact absurd hE (fun h9 => nomatch h9)
    | succ n ih =>
      intro x1 x4 H locs ls hE hP hD hS hl
      replace hE : (gi ((47 : Int32) + x3) 1888 ((if 0 ≤ (lg_cmp (x4.toInt64) (inM 0 ((47 : Int32) + x3).toNatClampNeg)) then lt' (x3 + (1 : Int32)) fun x3_3 => k4 x1 x3_3 else gi (((207 : Int32) + ((30 : Int32) * x3)) + x4) 1888 (lt' (x1 + (inM 0 (((207 : Int32) + ((30 : Int32) * x3)) + x4).toNatClampNeg)) fun x1_5 => lt' (x4 + (1 : Int32)) fun x4_6 => (f_X9_stored_L21 k4 x3 imM inM n) x1_5 x4_6)))) = some r' := hE
      refine lv_iload hx hb dX9_stored_21 (lv_at hl 3 rfl) ?_
      refine lv_i2l hx hb dX9_stored_23 rfl ?_
      refine lv_aload_n hx hb dX9_stored_24 rfl (lv_at hl 0 rfl) ?_
      refine va_get (D := D) (ci := 9) (v := .ref (aM 1)) (C := RX9) (T := TX9) (N := 13) hx hb hts iX9 hown hK hP 0 rfl rfl 0 (by decide) f7 (fun _ h9 => h9) rfl dX9_stored_25 ?_
      refine lv_bipush (v := 47) hx hb dX9_stored_28 (by decide) ?_
      refine lv_iload_n hx hb dX9_stored_30 rfl (lv_at hl 2 rfl) ?_
      refine lv_iadd hx hb dX9_stored_31 ?_
      obtain ⟨g_1, hE⟩ := gi_el hE
      refine va_lald hx hb hK hP 1 1 rfl rfl g_1 dX9_stored_32 ?_
      refine W.lcmp hx hb dX9_stored_33 ?_
      refine lv_if_ge (tgt := 62) hx hb dX9_stored_34 (by decide) (fun c_2 => ?_) (fun c_2 => ?_)
      · replace hE := it_t hE c_2
        obtain ⟨x3_3, e_x3_3, hE⟩ := lt_el hE
        refine lv_iinc (v := x3_3) (lv' := [(3, .int x3_3), (0, .ref (aM 0)), (1, .long x1), (4, .int x4)]) hx hb dX9_stored_62 hl (k := 2) rfl (by rw [e_x3_3]; rfl) (by decide) rfl (fun ls hl => ?_)
        refine lv_goto (tgt := 4) hx hb dX9_stored_65 (by decide) ?_
        exact hk4 x1 x3_3 _ _ _ hE hP hD hS (lv_sub hl [1, 2, 0] rfl)
      · replace hE := it_f hE c_2
        refine lv_lload_n hx hb dX9_stored_37 rfl (lv_at hl 1 rfl) ?_
        refine lv_aload_n hx hb dX9_stored_38 rfl (lv_at hl 0 rfl) ?_
        refine va_get (D := D) (ci := 9) (v := .ref (aM 1)) (C := RX9) (T := TX9) (N := 13) hx hb hts iX9 hown hK hP 0 rfl rfl 0 (by decide) f7 (fun _ h9 => h9) rfl dX9_stored_39 ?_
        refine lv_sipush (v := 207) hx hb dX9_stored_42 (by decide) ?_
        refine lv_bipush (v := 30) hx hb dX9_stored_45 (by decide) ?_
        refine lv_iload_n hx hb dX9_stored_47 rfl (lv_at hl 2 rfl) ?_
        refine lv_imul hx hb dX9_stored_48 ?_
        refine lv_iadd hx hb dX9_stored_49 ?_
        refine lv_iload hx hb dX9_stored_50 (lv_at hl 3 rfl) ?_
        refine lv_iadd hx hb dX9_stored_52 ?_
        obtain ⟨g_4, hE⟩ := gi_el hE
        refine va_lald hx hb hK hP 1 1 rfl rfl g_4 dX9_stored_53 ?_
        refine lv_ladd hx hb dX9_stored_54 ?_
        obtain ⟨x1_5, e_x1_5, hE⟩ := lt_el hE
        refine s_nmL e_x1_5 ?_
        refine lv_lstore_n (lv' := [(1, .long x1_5), (0, .ref (aM 0)), (3, .int x3), (4, .int x4)]) hx hb dX9_stored_55 rfl hl (by decide) rfl (fun ls hl => ?_)
        obtain ⟨x4_6, e_x4_6, hE⟩ := lt_el hE
        refine lv_iinc (v := x4_6) (lv' := [(4, .int x4_6), (1, .long x1_5), (0, .ref (aM 0)), (3, .int x3)]) hx hb dX9_stored_56 hl (k := 3) rfl (by rw [e_x4_6]; rfl) (by decide) rfl (fun ls hl => ?_)
        refine lv_goto (tgt := 21) hx hb dX9_stored_59 (by decide) ?_
        exact ih x1_5 x4_6 _ _ _ hE hP hD hS (lv_sub hl [2, 1, 3, 0] rfl)
  have h4 : ∀ (n : Nat), ∀ (x1 : Int64) (x3 : Int32) (H : Heap) (locs : List Loc) (ls : Array Slot), f_X9_stored_L4 imM inM n x1 x3 = some r' → va_P D vwCl (W_M cy aM imM inM) H → va_D A (W_M cy aM imM inM) → va_S A s.heap H locs → lv_has ls 5 [(0, .ref (aM 0)), (1, .long x1), (3, .int x3)] → W p l e rm_X9_stored s m args below meth c H locs 0 0 (MQ below (QL D cy r' (W_M cy aM imM inM) A) args s 0 0 A) (F0 m 4 ls []) := by
    intro n
    induction n with
    | zero => intro x1 x3 H locs ls hE; exact absurd hE (fun h9 => nomatch h9)
    | succ n ih =>
      intro x1 x3 H locs ls hE hP hD hS hl
      replace hE : ((if 0 ≤ (lg_cmp (x3.toInt64) (inM 0 (1880 : Int32).toNatClampNeg)) then some x1 else f_X9_stored_L21 (f_X9_stored_L4 imM inM n) x3 imM inM fuel x1 (0 : Int32))) = some r' := hE
      refine lv_iload_n hx hb dX9_stored_4 rfl (lv_at hl 2 rfl) ?_
      refine lv_i2l hx hb dX9_stored_5 rfl ?_
      refine lv_aload_n hx hb dX9_stored_6 rfl (lv_at hl 0 rfl) ?_
      refine va_get (D := D) (ci := 9) (v := .ref (aM 1)) (C := RX9) (T := TX9) (N := 13) hx hb hts iX9 hown hK hP 0 rfl rfl 0 (by decide) f7 (fun _ h9 => h9) rfl dX9_stored_7 ?_
      refine lv_sipush (v := 1880) hx hb dX9_stored_10 (by decide) ?_
      refine va_lald hx hb hK hP 1 1 rfl rfl (show ¬ ((1880 : Int32) < 0 ∨ 1888 ≤ (1880 : Int32).toNatClampNeg) by decide) dX9_stored_13 ?_
      refine W.lcmp hx hb dX9_stored_14 ?_
      refine lv_if_ge (tgt := 68) hx hb dX9_stored_15 (by decide) (fun c_7 => ?_) (fun c_7 => ?_)
      · replace hE := it_t hE c_7
        refine lv_lload_n hx hb dX9_stored_68 rfl (lv_at hl 1 rfl) ?_
        have hE := Option.some.inj hE
        exact el hx hb hr hlocks hK hP hD hS hE rfl dX9_stored_69
      · replace hE := it_f hE c_7
        refine lv_iconst (v := 0) hx hb dX9_stored_18 (by decide) ?_
        refine lv_istore (lv' := [(4, .int (0 : Int32)), (0, .ref (aM 0)), (1, .long x1), (3, .int x3)]) hx hb dX9_stored_19 hl (by decide) rfl (fun ls hl => ?_)
        exact h21 x3 (f_X9_stored_L4 imM inM n) ih fuel x1 (0 : Int32) _ _ _ hE hP hD hS (lv_sub hl [1, 2, 3, 0] rfl)
  unfold f_X9_stored at hE
  refine lv_lconst (v := 0) hx hb dX9_stored_0 (by decide) ?_
  refine lv_lstore_n (lv' := [(1, .long (0 : Int64)), (0, .ref (aM 0))]) hx hb dX9_stored_1 rfl hl (by decide) rfl (fun ls hl => ?_)
  refine lv_iconst (v := 0) hx hb dX9_stored_2 (by decide) ?_
  refine lv_istore_n (lv' := [(3, .int (0 : Int32)), (1, .long (0 : Int64)), (0, .ref (aM 0))]) hx hb dX9_stored_3 rfl hl (by decide) rfl (fun ls hl => ?_)
  exact h4 fuel (0 : Int64) (0 : Int32) _ _ _ hE hP hD hS (lv_sub hl [2, 1, 0] rfl)
abbrev rm_X9_blocks : Room := { frames := 0, cells := 0, slots := 0, locals := 0 }
set_option maxHeartbeats 40000000 in
set_option maxRecDepth 100000 in
theorem c_X9_blocks (l : Launch) (D : va_G) (cy : Nat → Nat) (aM : Nat → Nat) (imM : Mem) (inM : MemL) (r' : Int32) (hE : f_X9_blocks imM inM = some r') : CI l yX9_blocks wsX9_blocks rm_X9_blocks D cy [.ref (aM 0)] (W_M cy aM imM inM) 0 0 r' (W_M cy aM imM inM) := by
  refine CQ_of (cc := cX9_blocks) (maxL := 3) (ret := (some .int)) (by decide) rfl (Nat.le_of_ble_eq_true rfl) (fun p e s m args below meth c A ls hx hb hr hml hlocks hnm hown hts hA hK hN hP hD hS hl => ?_)
  have hown : s.vm.findClass RX9 = some m.cls := hown
  have hl : lv_has ls 3 [(0, .ref (aM 0))] := hl
  have f7 : (Cond.fieldLink RX9 7 "IcePlantModel" "w" "[J").before args s = true := hts _ (mC qf_X9_7)
  have iX9 : ∀ w ∈ wsX90, w ∈ wsX9_blocks := fun w h => mC (iA_X9 w h)
  have h4 : ∀ (n : Nat), ∀ (x1 : Int32) (x2 : Int32) (H : Heap) (locs : List Loc) (ls : Array Slot), f_X9_blocks_L4 imM inM n x1 x2 = some r' → va_P D vwCl (W_M cy aM imM inM) H → va_D A (W_M cy aM imM inM) → va_S A s.heap H locs → lv_has ls 3 [(0, .ref (aM 0)), (1, .int x1), (2, .int x2)] → W p l e rm_X9_blocks s m args below meth c H locs 0 0 (MQ below (QI D cy r' (W_M cy aM imM inM) A) args s 0 0 A) (F0 m 4 ls []) := by
    intro n
    induction n with
    | zero => intro x1 x2 H locs ls hE; exact absurd hE (fun h9 => nomatch h9)
    | succ n ih =>
      intro x1 x2 H locs ls hE hP hD hS hl
      replace hE : ((if 0 ≤ (lg_cmp (x2.toInt64) (inM 0 (1880 : Int32).toNatClampNeg)) then some x1 else gi ((47 : Int32) + x2) 1888 (lt' (x1 + ((inM 0 ((47 : Int32) + x2).toNatClampNeg).toInt32)) fun x1_3 => lt' (x2 + (1 : Int32)) fun x2_4 => (f_X9_blocks_L4 imM inM n) x1_3 x2_4))) = some r' := hE
      refine lv_iload_n hx hb dX9_blocks_4 rfl (lv_at hl 2 rfl) ?_
      refine lv_i2l hx hb dX9_blocks_5 rfl ?_
      refine lv_aload_n hx hb dX9_blocks_6 rfl (lv_at hl 0 rfl) ?_
      refine va_get (D := D) (ci := 9) (v := .ref (aM 1)) (C := RX9) (T := TX9) (N := 13) hx hb hts iX9 hown hK hP 0 rfl rfl 0 (by decide) f7 (fun _ h9 => h9) rfl dX9_blocks_7 ?_
      refine lv_sipush (v := 1880) hx hb dX9_blocks_10 (by decide) ?_
      refine va_lald hx hb hK hP 1 1 rfl rfl (show ¬ ((1880 : Int32) < 0 ∨ 1888 ≤ (1880 : Int32).toNatClampNeg) by decide) dX9_blocks_13 ?_
      refine W.lcmp hx hb dX9_blocks_14 ?_
      refine lv_if_ge (tgt := 37) hx hb dX9_blocks_15 (by decide) (fun c_1 => ?_) (fun c_1 => ?_)
      · replace hE := it_t hE c_1
        refine lv_iload_n hx hb dX9_blocks_37 rfl (lv_at hl 1 rfl) ?_
        have hE := Option.some.inj hE
        exact ei hx hb hr hlocks hK hP hD hS hE rfl dX9_blocks_38
      · replace hE := it_f hE c_1
        refine lv_iload_n hx hb dX9_blocks_18 rfl (lv_at hl 1 rfl) ?_
        refine lv_aload_n hx hb dX9_blocks_19 rfl (lv_at hl 0 rfl) ?_
        refine va_get (D := D) (ci := 9) (v := .ref (aM 1)) (C := RX9) (T := TX9) (N := 13) hx hb hts iX9 hown hK hP 0 rfl rfl 0 (by decide) f7 (fun _ h9 => h9) rfl dX9_blocks_20 ?_
        refine lv_bipush (v := 47) hx hb dX9_blocks_23 (by decide) ?_
        refine lv_iload_n hx hb dX9_blocks_25 rfl (lv_at hl 2 rfl) ?_
        refine lv_iadd hx hb dX9_blocks_26 ?_
        obtain ⟨g_2, hE⟩ := gi_el hE
        refine va_lald hx hb hK hP 1 1 rfl rfl g_2 dX9_blocks_27 ?_
        refine lv_l2i hx hb dX9_blocks_28 rfl ?_
        refine lv_iadd hx hb dX9_blocks_29 ?_
        obtain ⟨x1_3, e_x1_3, hE⟩ := lt_el hE
        refine s_nm e_x1_3 ?_
        refine lv_istore_n (lv' := [(1, .int x1_3), (0, .ref (aM 0)), (2, .int x2)]) hx hb dX9_blocks_30 rfl hl (by decide) rfl (fun ls hl => ?_)
        obtain ⟨x2_4, e_x2_4, hE⟩ := lt_el hE
        refine lv_iinc (v := x2_4) (lv' := [(2, .int x2_4), (1, .int x1_3), (0, .ref (aM 0))]) hx hb dX9_blocks_31 hl (k := 2) rfl (by rw [e_x2_4]; rfl) (by decide) rfl (fun ls hl => ?_)
        refine lv_goto (tgt := 4) hx hb dX9_blocks_34 (by decide) ?_
        exact ih x1_3 x2_4 _ _ _ hE hP hD hS (lv_sub hl [2, 1, 0] rfl)
  unfold f_X9_blocks at hE
  refine lv_iconst (v := 0) hx hb dX9_blocks_0 (by decide) ?_
  refine lv_istore_n (lv' := [(1, .int (0 : Int32)), (0, .ref (aM 0))]) hx hb dX9_blocks_1 rfl hl (by decide) rfl (fun ls hl => ?_)
  refine lv_iconst (v := 0) hx hb dX9_blocks_2 (by decide) ?_
  refine lv_istore_n (lv' := [(2, .int (0 : Int32)), (1, .int (0 : Int32)), (0, .ref (aM 0))]) hx hb dX9_blocks_3 rfl hl (by decide) rfl (fun ls hl => ?_)
  exact h4 fuel (0 : Int32) (0 : Int32) _ _ _ hE hP hD hS (lv_sub hl [2, 1, 0] rfl)
abbrev rm_X9_oldest : Room := { frames := 0, cells := 0, slots := 0, locals := 0 }
set_option maxHeartbeats 40000000 in
set_option maxRecDepth 100000 in
theorem c_X9_oldest (l : Launch) (D : va_G) (cy : Nat → Nat) (aM : Nat → Nat) (imM : Mem) (inM : MemL) (r' : Int32) (hE : f_X9_oldest imM inM = some r') : CI l yX9_oldest wsX9_oldest rm_X9_oldest D cy [.ref (aM 0)] (W_M cy aM imM inM) 0 0 r' (W_M cy aM imM inM) := by
  refine CQ_of (cc := cX9_oldest) (maxL := 4) (ret := (some .int)) (by decide) rfl (Nat.le_of_ble_eq_true rfl) (fun p e s m args below meth c A ls hx hb hr hml hlocks hnm hown hts hA hK hN hP hD hS hl => ?_)
  have hown : s.vm.findClass RX9 = some m.cls := hown
  have hl : lv_has ls 4 [(0, .ref (aM 0))] := hl
  have f7 : (Cond.fieldLink RX9 7 "IcePlantModel" "w" "[J").before args s = true := hts _ (mC qf_X9_7)
  have iX9 : ∀ w ∈ wsX90, w ∈ wsX9_oldest := fun w h => mC (iA_X9 w h)
  have h74 : ∀ (x1 : Int32) (x2 : Int32) (x3 : Int32), ∀ (k4 : (Int32 → Int32 → Option (Int32))), (∀ (x1 : Int32) (x2 : Int32) (H : Heap) (locs : List Loc) (ls : Array Slot), k4 x1 x2 = some r' → va_P D vwCl (W_M cy aM imM inM) H → va_D A (W_M cy aM imM inM) → va_S A s.heap H locs → lv_has ls 4 [(0, .ref (aM 0)), (1, .int x1), (2, .int x2)] → W p l e rm_X9_oldest s m args below meth c H locs 0 0 (MQ below (QI D cy r' (W_M cy aM imM inM) A) args s 0 0 A) (F0 m 4 ls [])) → ∀ (k20 : (Int32 → Int32 → Option (Int32))), (∀ (x1 : Int32) (x3 : Int32) (H : Heap) (locs : List Loc) (ls : Array Slot), k20 x1 x3 = some r' → va_P D vwCl (W_M cy aM imM inM) H → va_D A (W_M cy aM imM inM) → va_S A s.heap H locs → lv_has ls 4 [(0, .ref (aM 0)), (1, .int x1), (2, .int x2), (3, .int x3)] → W p l e rm_X9_oldest s m args below meth c H locs 0 0 (MQ below (QI D cy r' (W_M cy aM imM inM) A) args s 0 0 A) (F0 m 20 ls [])) → ∀  (H : Heap) (locs : List Loc) (ls : Array Slot), f_X9_oldest_b74 k4 k20 x1 x2 x3 imM inM = some r' → va_P D vwCl (W_M cy aM imM inM) H → va_D A (W_M cy aM imM inM) → va_S A s.heap H locs → lv_has ls 4 [(0, .ref (aM 0)), (1, .int x1), (2, .int x2), (3, .int x3)] → W p l e rm_X9_oldest s m args below meth c H locs 0 0 (MQ below (QI D cy r' (W_M cy aM imM inM) A) args s 0 0 A) (F0 m 74 ls []) := by
    intro x1 x2 x3 k4 hk4 k20 hk20 H locs ls hE hP hD hS hl
    replace hE : (lt' (x3 + (1 : Int32)) fun x3_1 => k20 x1 x3_1) = some r' := hE
    obtain ⟨x3_1, e_x3_1, hE⟩ := lt_el hE
    refine lv_iinc (v := x3_1) (lv' := [(3, .int x3_1), (0, .ref (aM 0)), (1, .int x1), (2, .int x2)]) hx hb dX9_oldest_74 hl (k := 3) rfl (by rw [e_x3_1]; rfl) (by decide) rfl (fun ls hl => ?_)
    refine lv_goto (tgt := 20) hx hb dX9_oldest_77 (by decide) ?_
    exact hk20 x1 x3_1 _ _ _ hE hP hD hS (lv_sub hl [1, 2, 3, 0] rfl)
  have h67 : ∀ (x2 : Int32) (x3 : Int32), ∀ (k4 : (Int32 → Int32 → Option (Int32))), (∀ (x1 : Int32) (x2 : Int32) (H : Heap) (locs : List Loc) (ls : Array Slot), k4 x1 x2 = some r' → va_P D vwCl (W_M cy aM imM inM) H → va_D A (W_M cy aM imM inM) → va_S A s.heap H locs → lv_has ls 4 [(0, .ref (aM 0)), (1, .int x1), (2, .int x2)] → W p l e rm_X9_oldest s m args below meth c H locs 0 0 (MQ below (QI D cy r' (W_M cy aM imM inM) A) args s 0 0 A) (F0 m 4 ls [])) → ∀ (k20 : (Int32 → Int32 → Option (Int32))), (∀ (x1 : Int32) (x3 : Int32) (H : Heap) (locs : List Loc) (ls : Array Slot), k20 x1 x3 = some r' → va_P D vwCl (W_M cy aM imM inM) H → va_D A (W_M cy aM imM inM) → va_S A s.heap H locs → lv_has ls 4 [(0, .ref (aM 0)), (1, .int x1), (2, .int x2), (3, .int x3)] → W p l e rm_X9_oldest s m args below meth c H locs 0 0 (MQ below (QI D cy r' (W_M cy aM imM inM) A) args s 0 0 A) (F0 m 20 ls [])) → ∀  (H : Heap) (locs : List Loc) (ls : Array Slot), f_X9_oldest_b67 k4 k20 x2 x3 imM inM = some r' → va_P D vwCl (W_M cy aM imM inM) H → va_D A (W_M cy aM imM inM) → va_S A s.heap H locs → lv_has ls 4 [(0, .ref (aM 0)), (2, .int x2), (3, .int x3)] → W p l e rm_X9_oldest s m args below meth c H locs 0 0 (MQ below (QI D cy r' (W_M cy aM imM inM) A) args s 0 0 A) (F0 m 67 ls []) := by
    intro x2 x3 k4 hk4 k20 hk20 H locs ls hE hP hD hS hl
    replace hE : (lt' (((30 : Int32) * x2) + x3) fun x1_2 => f_X9_oldest_b74 k4 k20 x1_2 x2 x3 imM inM) = some r' := hE
    refine lv_bipush (v := 30) hx hb dX9_oldest_67 (by decide) ?_
    refine lv_iload_n hx hb dX9_oldest_69 rfl (lv_at hl 1 rfl) ?_
    refine lv_imul hx hb dX9_oldest_70 ?_
    refine lv_iload_n hx hb dX9_oldest_71 rfl (lv_at hl 2 rfl) ?_
    refine lv_iadd hx hb dX9_oldest_72 ?_
    obtain ⟨x1_2, e_x1_2, hE⟩ := lt_el hE
    refine s_nm e_x1_2 ?_
    refine lv_istore_n (lv' := [(1, .int x1_2), (0, .ref (aM 0)), (2, .int x2), (3, .int x3)]) hx hb dX9_oldest_73 rfl hl (by decide) rfl (fun ls hl => ?_)
    exact h74 x1_2 x2 x3 k4 hk4 k20 hk20 _ _ _ hE hP hD hS (lv_sub hl [1, 0, 2, 3] rfl)
  have h20 : ∀ (x2 : Int32), ∀ (k4 : (Int32 → Int32 → Option (Int32))), (∀ (x1 : Int32) (x2 : Int32) (H : Heap) (locs : List Loc) (ls : Array Slot), k4 x1 x2 = some r' → va_P D vwCl (W_M cy aM imM inM) H → va_D A (W_M cy aM imM inM) → va_S A s.heap H locs → lv_has ls 4 [(0, .ref (aM 0)), (1, .int x1), (2, .int x2)] → W p l e rm_X9_oldest s m args below meth c H locs 0 0 (MQ below (QI D cy r' (W_M cy aM imM inM) A) args s 0 0 A) (F0 m 4 ls [])) → ∀ (n : Nat), ∀ (x1 : Int32) (x3 : Int32) (H : Heap) (locs : List Loc) (ls : Array Slot), f_X9_oldest_L20 k4 x2 imM inM n x1 x3 = some r' → va_P D vwCl (W_M cy aM imM inM) H → va_D A (W_M cy aM imM inM) → va_S A s.heap H locs → lv_has ls 4 [(0, .ref (aM 0)), (1, .int x1), (2, .int x2), (3, .int x3)] → W p l e rm_X9_oldest s m args below meth c H locs 0 0 (MQ below (QI D cy r' (W_M cy aM imM inM) A) args s 0 0 A) (F0 m 20 ls []) := by
    intro x2 k4 hk4 n
    induction n with
    | zero => intro x1 x3 H locs ls hE; exact absurd hE (fun h9 => nomatch h9)
    | succ n ih =>
      intro x1 x3 H locs ls hE hP hD hS hl
      replace hE : (gi ((47 : Int32) + x2) 1888 ((if 0 ≤ (lg_cmp (x3.toInt64) (inM 0 ((47 : Int32) + x2).toNatClampNeg)) then lt' (x2 + (1 : Int32)) fun x2_5 => k4 x1 x2_5 else (if x1 = (-1 : Int32) then f_X9_oldest_b67 k4 (f_X9_oldest_L20 k4 x2 imM inM n) x2 x3 imM inM else gi (((57 : Int32) + ((30 : Int32) * x2)) + x3) 1888 (gi ((57 : Int32) + x1) 1888 ((if 0 ≤ (lg_cmp (inM 0 (((57 : Int32) + ((30 : Int32) * x2)) + x3).toNatClampNeg) (inM 0 ((57 : Int32) + x1).toNatClampNeg)) then f_X9_oldest_b74 k4 (f_X9_oldest_L20 k4 x2 imM inM n) x1 x2 x3 imM inM else f_X9_oldest_b67 k4 (f_X9_oldest_L20 k4 x2 imM inM n) x2 x3 imM inM))))))) = some r' := hE
      refine lv_iload_n hx hb dX9_oldest_20 rfl (lv_at hl 3 rfl) ?_
      refine lv_i2l hx hb dX9_oldest_21 rfl ?_
      refine lv_aload_n hx hb dX9_oldest_22 rfl (lv_at hl 0 rfl) ?_
      refine va_get (D := D) (ci := 9) (v := .ref (aM 1)) (C := RX9) (T := TX9) (N := 13) hx hb hts iX9 hown hK hP 0 rfl rfl 0 (by decide) f7 (fun _ h9 => h9) rfl dX9_oldest_23 ?_
      refine lv_bipush (v := 47) hx hb dX9_oldest_26 (by decide) ?_
      refine lv_iload_n hx hb dX9_oldest_28 rfl (lv_at hl 2 rfl) ?_
      refine lv_iadd hx hb dX9_oldest_29 ?_
      obtain ⟨g_3, hE⟩ := gi_el hE
      refine va_lald hx hb hK hP 1 1 rfl rfl g_3 dX9_oldest_30 ?_
      refine W.lcmp hx hb dX9_oldest_31 ?_
      refine lv_if_ge (tgt := 80) hx hb dX9_oldest_32 (by decide) (fun c_4 => ?_) (fun c_4 => ?_)
      · replace hE := it_t hE c_4
        obtain ⟨x2_5, e_x2_5, hE⟩ := lt_el hE
        refine lv_iinc (v := x2_5) (lv' := [(2, .int x2_5), (0, .ref (aM 0)), (1, .int x1), (3, .int x3)]) hx hb dX9_oldest_80 hl (k := 2) rfl (by rw [e_x2_5]; rfl) (by decide) rfl (fun ls hl => ?_)
        refine lv_goto (tgt := 4) hx hb dX9_oldest_83 (by decide) ?_
        exact hk4 x1 x2_5 _ _ _ hE hP hD hS (lv_sub hl [1, 2, 0] rfl)
      · replace hE := it_f hE c_4
        refine lv_iload_n hx hb dX9_oldest_35 rfl (lv_at hl 1 rfl) ?_
        refine lv_iconst (v := (-1)) hx hb dX9_oldest_36 (by decide) ?_
        refine lv_icmp_eq (tgt := 67) hx hb dX9_oldest_37 (by decide) (fun c_6 => ?_) (fun c_6 => ?_)
        · replace hE := it_t hE c_6
          exact h67 x2 x3 k4 hk4 (f_X9_oldest_L20 k4 x2 imM inM n) ih _ _ _ hE hP hD hS (lv_sub hl [0, 2, 3] rfl)
        · replace hE := it_f hE c_6
          refine lv_aload_n hx hb dX9_oldest_40 rfl (lv_at hl 0 rfl) ?_
          refine va_get (D := D) (ci := 9) (v := .ref (aM 1)) (C := RX9) (T := TX9) (N := 13) hx hb hts iX9 hown hK hP 0 rfl rfl 0 (by decide) f7 (fun _ h9 => h9) rfl dX9_oldest_41 ?_
          refine lv_bipush (v := 57) hx hb dX9_oldest_44 (by decide) ?_
          refine lv_bipush (v := 30) hx hb dX9_oldest_46 (by decide) ?_
          refine lv_iload_n hx hb dX9_oldest_48 rfl (lv_at hl 2 rfl) ?_
          refine lv_imul hx hb dX9_oldest_49 ?_
          refine lv_iadd hx hb dX9_oldest_50 ?_
          refine lv_iload_n hx hb dX9_oldest_51 rfl (lv_at hl 3 rfl) ?_
          refine lv_iadd hx hb dX9_oldest_52 ?_
          obtain ⟨g_7, hE⟩ := gi_el hE
          refine va_lald hx hb hK hP 1 1 rfl rfl g_7 dX9_oldest_53 ?_
          refine lv_aload_n hx hb dX9_oldest_54 rfl (lv_at hl 0 rfl) ?_
          refine va_get (D := D) (ci := 9) (v := .ref (aM 1)) (C := RX9) (T := TX9) (N := 13) hx hb hts iX9 hown hK hP 0 rfl rfl 0 (by decide) f7 (fun _ h9 => h9) rfl dX9_oldest_55 ?_
          refine lv_bipush (v := 57) hx hb dX9_oldest_58 (by decide) ?_
          refine lv_iload_n hx hb dX9_oldest_60 rfl (lv_at hl 1 rfl) ?_
          refine lv_iadd hx hb dX9_oldest_61 ?_
          obtain ⟨g_8, hE⟩ := gi_el hE
          refine va_lald hx hb hK hP 1 1 rfl rfl g_8 dX9_oldest_62 ?_
          refine W.lcmp hx hb dX9_oldest_63 ?_
          refine lv_if_ge (tgt := 74) hx hb dX9_oldest_64 (by decide) (fun c_9 => ?_) (fun c_9 => ?_)
          · replace hE := it_t hE c_9
            exact h74 x1 x2 x3 k4 hk4 (f_X9_oldest_L20 k4 x2 imM inM n) ih _ _ _ hE hP hD hS (lv_sub hl [0, 1, 2, 3] rfl)
          · replace hE := it_f hE c_9
            exact h67 x2 x3 k4 hk4 (f_X9_oldest_L20 k4 x2 imM inM n) ih _ _ _ hE hP hD hS (lv_sub hl [0, 2, 3] rfl)
  have h4 : ∀ (n : Nat), ∀ (x1 : Int32) (x2 : Int32) (H : Heap) (locs : List Loc) (ls : Array Slot), f_X9_oldest_L4 imM inM n x1 x2 = some r' → va_P D vwCl (W_M cy aM imM inM) H → va_D A (W_M cy aM imM inM) → va_S A s.heap H locs → lv_has ls 4 [(0, .ref (aM 0)), (1, .int x1), (2, .int x2)] → W p l e rm_X9_oldest s m args below meth c H locs 0 0 (MQ below (QI D cy r' (W_M cy aM imM inM) A) args s 0 0 A) (F0 m 4 ls []) := by
    intro n
    induction n with
    | zero => intro x1 x2 H locs ls hE; exact absurd hE (fun h9 => nomatch h9)
    | succ n ih =>
      intro x1 x2 H locs ls hE hP hD hS hl
      replace hE : ((if 0 ≤ (lg_cmp (x2.toInt64) (inM 0 (1880 : Int32).toNatClampNeg)) then some x1 else f_X9_oldest_L20 (f_X9_oldest_L4 imM inM n) x2 imM inM fuel x1 (0 : Int32))) = some r' := hE
      refine lv_iload_n hx hb dX9_oldest_4 rfl (lv_at hl 2 rfl) ?_
      refine lv_i2l hx hb dX9_oldest_5 rfl ?_
      refine lv_aload_n hx hb dX9_oldest_6 rfl (lv_at hl 0 rfl) ?_
      refine va_get (D := D) (ci := 9) (v := .ref (aM 1)) (C := RX9) (T := TX9) (N := 13) hx hb hts iX9 hown hK hP 0 rfl rfl 0 (by decide) f7 (fun _ h9 => h9) rfl dX9_oldest_7 ?_
      refine lv_sipush (v := 1880) hx hb dX9_oldest_10 (by decide) ?_
      refine va_lald hx hb hK hP 1 1 rfl rfl (show ¬ ((1880 : Int32) < 0 ∨ 1888 ≤ (1880 : Int32).toNatClampNeg) by decide) dX9_oldest_13 ?_
      refine W.lcmp hx hb dX9_oldest_14 ?_
      refine lv_if_ge (tgt := 86) hx hb dX9_oldest_15 (by decide) (fun c_10 => ?_) (fun c_10 => ?_)
      · replace hE := it_t hE c_10
        refine lv_iload_n hx hb dX9_oldest_86 rfl (lv_at hl 1 rfl) ?_
        have hE := Option.some.inj hE
        exact ei hx hb hr hlocks hK hP hD hS hE rfl dX9_oldest_87
      · replace hE := it_f hE c_10
        refine lv_iconst (v := 0) hx hb dX9_oldest_18 (by decide) ?_
        refine lv_istore_n (lv' := [(3, .int (0 : Int32)), (0, .ref (aM 0)), (1, .int x1), (2, .int x2)]) hx hb dX9_oldest_19 rfl hl (by decide) rfl (fun ls hl => ?_)
        exact h20 x2 (f_X9_oldest_L4 imM inM n) ih fuel x1 (0 : Int32) _ _ _ hE hP hD hS (lv_sub hl [1, 2, 3, 0] rfl)
  unfold f_X9_oldest at hE
  refine lv_iconst (v := (-1)) hx hb dX9_oldest_0 (by decide) ?_
  refine lv_istore_n (lv' := [(1, .int (-1 : Int32)), (0, .ref (aM 0))]) hx hb dX9_oldest_1 rfl hl (by decide) rfl (fun ls hl => ?_)
  refine lv_iconst (v := 0) hx hb dX9_oldest_2 (by decide) ?_
  refine lv_istore_n (lv' := [(2, .int (0 : Int32)), (1, .int (-1 : Int32)), (0, .ref (aM 0))]) hx hb dX9_oldest_3 rfl hl (by decide) rfl (fun ls hl => ?_)
  exact h4 fuel (-1 : Int32) (0 : Int32) _ _ _ hE hP hD hS (lv_sub hl [2, 1, 0] rfl)
abbrev rm_X9_bandNow : Room := { frames := 1, cells := 0, slots := 0, locals := 25 }
set_option maxHeartbeats 40000000 in
set_option maxRecDepth 100000 in
theorem c_X9_bandNow (l : Launch) (D : va_G) (cy : Nat → Nat) (aM : Nat → Nat) (imM : Mem) (inM : MemL) (r' : Int32) (hE : f_X9_bandNow imM inM = some r') : CI l yX9_bandNow wsX9_bandNow rm_X9_bandNow D cy [.ref (aM 0)] (W_M cy aM imM inM) 0 0 r' (W_M cy aM imM inM) := by
  refine CQ_of (cc := cX9_bandNow) (maxL := 1) (ret := (some .int)) (by decide) rfl (Nat.le_of_ble_eq_true rfl) (fun p e s m args below meth c A ls hx hb hr hml hlocks hnm hown hts hA hK hN hP hD hS hl => ?_)
  have hown : s.vm.findClass RX9 = some m.cls := hown
  have hl : lv_has ls 1 [(0, .ref (aM 0))] := hl
  have hC : CallFix p m c cX9_bandNow 1 s args wsX9_bandNow RX9 := ⟨hx, hb, hml, hown, hts⟩
  have f7 : (Cond.fieldLink RX9 7 "IcePlantModel" "w" "[J").before args s = true := hts _ (mC qf_X9_7)
  have iX9 : ∀ w ∈ wsX90, w ∈ wsX9_bandNow := fun w h => mC (iA_X9 w h)
  have k129 : (Cond.constantLong RX9 129 (6)).before args s = true := hts _ (mC qk_X9_129)
  have k131 : (Cond.constantLong RX9 131 (21)).before args s = true := hts _ (mC qk_X9_131)
  have k98 : (Cond.constantLong RX9 98 (24)).before args s = true := hts _ (mC qk_X9_98)
  unfold f_X9_bandNow at hE
  refine lv_aload_n hx hb dX9_bandNow_0 rfl (lv_at hl 0 rfl) ?_
  refine va_get (D := D) (ci := 9) (v := .ref (aM 1)) (C := RX9) (T := TX9) (N := 13) hx hb hts iX9 hown hK hP 0 rfl rfl 0 (by decide) f7 (fun _ h9 => h9) rfl dX9_bandNow_1 ?_
  refine lv_sipush (v := 1875) hx hb dX9_bandNow_4 (by decide) ?_
  refine va_lald hx hb hK hP 1 1 rfl rfl (show ¬ ((1875 : Int32) < 0 ∨ 1888 ≤ (1875 : Int32).toNatClampNeg) by decide) dX9_bandNow_7 ?_
  refine lv_ldc2 hx hb hown k98 dX9_bandNow_8 ?_
  refine lv_lrem hx hb dX9_bandNow_11 (by decide) ?_
  refine lv_ldc2 hx hb hown k129 dX9_bandNow_12 ?_
  refine lv_ldc2 hx hb hown k131 dX9_bandNow_15 ?_
  obtain ⟨r_1, hc_2, hE⟩ := bd1_el hE
  refine ki (X := []) (Y := (W_M cy aM imM inM)) (ws1 := (W_M cy aM imM inM)) (rS (X := []) (Y := (W_M cy aM imM inM)) (As := [.long ((inM 0 (1875 : Int32).toNatClampNeg) - (inM 0 (1875 : Int32).toNatClampNeg) / (24 : Int64) * (24 : Int64)), .long (6 : Int64), .long (21 : Int64)]) (rest := []) hC (c_X9_in l D cy ((inM 0 (1875 : Int32).toNatClampNeg) - (inM 0 (1875 : Int32).toNatClampNeg) / (24 : Int64) * (24 : Int64)) (6 : Int64) (21 : Int64) r_1 hc_2) (cwS 3 hts gX9_bandNow_X9_in rfl rfl rfl cd_X9_in ⟨Nat.le_of_ble_eq_true rfl, Nat.le_of_ble_eq_true rfl⟩) hK hN hP hD hS hA rfl rfl hl.1 rfl (lv_room (Nat.le_of_ble_eq_true rfl)) dX9_bandNow_18 ⟨Nat.le_of_ble_eq_true rfl, Nat.le_of_ble_eq_true rfl⟩) hP hD hS hA rfl rfl rfl (fun H locs hP hD hS => ?_)
  refine lv_if_eq (tgt := 28) hx hb dX9_bandNow_21 (by decide) (fun c_3 => ?_) (fun c_3 => ?_)
  · replace hE := it_t hE c_3
    refine lv_iconst (v := 0) hx hb dX9_bandNow_28 (by decide) ?_
    have hE := Option.some.inj hE
    exact ei hx hb hr hlocks hK hP hD hS hE rfl dX9_bandNow_29
  · replace hE := it_f hE c_3
    refine lv_iconst (v := 1) hx hb dX9_bandNow_24 (by decide) ?_
    refine lv_goto (tgt := 29) hx hb dX9_bandNow_25 (by decide) ?_
    have hE := Option.some.inj hE
    exact ei hx hb hr hlocks hK hP hD hS hE rfl dX9_bandNow_29
abbrev rm_X9_priceOf : Room := { frames := 0, cells := 0, slots := 0, locals := 0 }
set_option maxHeartbeats 40000000 in
set_option maxRecDepth 100000 in
theorem c_X9_priceOf (l : Launch) (D : va_G) (cy : Nat → Nat) (aM : Nat → Nat) (x1 : Int32) (x2 : Int64) (x4 : Int32) (imM : Mem) (inM : MemL) (r' : Int64) (hE : f_X9_priceOf x1 x2 x4 imM inM = some r') : CL l yX9_priceOf wsX9_priceOf rm_X9_priceOf D cy [.ref (aM 0), .int x1, .long x2, .int x4] (W_M cy aM imM inM) 0 0 r' (W_M cy aM imM inM) := by
  refine CQ_of (cc := cX9_priceOf) (maxL := 7) (ret := (some .long)) (by decide) rfl (Nat.le_of_ble_eq_true rfl) (fun p e s m args below meth c A ls hx hb hr hml hlocks hnm hown hts hA hK hN hP hD hS hl => ?_)
  have hown : s.vm.findClass RX9 = some m.cls := hown
  have hl : lv_has ls 7 [(0, .ref (aM 0)), (1, .int x1), (2, .long x2), (4, .int x4)] := hl
  have f7 : (Cond.fieldLink RX9 7 "IcePlantModel" "w" "[J").before args s = true := hts _ (mC qf_X9_7)
  have iX9 : ∀ w ∈ wsX90, w ∈ wsX9_priceOf := fun w h => mC (iA_X9 w h)
  have k58 : (Cond.constantLong RX9 58 (100)).before args s = true := hts _ (mC qk_X9_58)
  have h17 : ∀ (x1 : Int32) (t0 : Int32) (t1 : Int32) (t3 : Int64), ∀  (H : Heap) (locs : List Loc) (ls : Array Slot), f_X9_priceOf_b17 x1 t0 t1 t3 imM inM = some r' → va_P D vwCl (W_M cy aM imM inM) H → va_D A (W_M cy aM imM inM) → va_S A s.heap H locs → lv_has ls 7 [(0, .ref (aM 0)), (1, .int x1)] → W p l e rm_X9_priceOf s m args below meth c H locs 0 0 (MQ below (QL D cy r' (W_M cy aM imM inM) A) args s 0 0 A) (F0 m 17 ls [.int t0, .int t1, .ref (aM 1), .long t3]) := by
    intro x1 t0 t1 t3 H locs ls hE hP hD hS hl
    replace hE : (gi (t1 + t0) 1888 (lt' (t3 * (inM 0 (t1 + t0).toNatClampNeg)) fun x5_2 => gi ((507 : Int32) + x1) 1888 ((if (lg_cmp (inM 0 ((507 : Int32) + x1).toNatClampNeg) (inM 0 (6 : Int32).toNatClampNeg)) < 0 then some x5_2 else some (x5_2 - ((x5_2 * (inM 0 (7 : Int32).toNatClampNeg)) / (100 : Int64))))))) = some r' := hE
    refine lv_iadd hx hb dX9_priceOf_17 ?_
    obtain ⟨g_1, hE⟩ := gi_el hE
    refine va_lald hx hb hK hP 1 1 rfl rfl g_1 dX9_priceOf_18 ?_
    refine lv_lmul hx hb dX9_priceOf_19 ?_
    obtain ⟨x5_2, e_x5_2, hE⟩ := lt_el hE
    refine s_nmL e_x5_2 ?_
    refine lv_lstore (lv' := [(5, .long x5_2), (0, .ref (aM 0)), (1, .int x1)]) hx hb dX9_priceOf_20 hl (by decide) rfl (fun ls hl => ?_)
    refine lv_aload_n hx hb dX9_priceOf_22 rfl (lv_at hl 1 rfl) ?_
    refine va_get (D := D) (ci := 9) (v := .ref (aM 1)) (C := RX9) (T := TX9) (N := 13) hx hb hts iX9 hown hK hP 0 rfl rfl 0 (by decide) f7 (fun _ h9 => h9) rfl dX9_priceOf_23 ?_
    refine lv_sipush (v := 507) hx hb dX9_priceOf_26 (by decide) ?_
    refine lv_iload_n hx hb dX9_priceOf_29 rfl (lv_at hl 2 rfl) ?_
    refine lv_iadd hx hb dX9_priceOf_30 ?_
    obtain ⟨g_3, hE⟩ := gi_el hE
    refine va_lald hx hb hK hP 1 1 rfl rfl g_3 dX9_priceOf_31 ?_
    refine lv_aload_n hx hb dX9_priceOf_32 rfl (lv_at hl 1 rfl) ?_
    refine va_get (D := D) (ci := 9) (v := .ref (aM 1)) (C := RX9) (T := TX9) (N := 13) hx hb hts iX9 hown hK hP 0 rfl rfl 0 (by decide) f7 (fun _ h9 => h9) rfl dX9_priceOf_33 ?_
    refine lv_bipush (v := 6) hx hb dX9_priceOf_36 (by decide) ?_
    refine va_lald hx hb hK hP 1 1 rfl rfl (show ¬ ((6 : Int32) < 0 ∨ 1888 ≤ (6 : Int32).toNatClampNeg) by decide) dX9_priceOf_38 ?_
    refine W.lcmp hx hb dX9_priceOf_39 ?_
    refine lv_if_lt (tgt := 63) hx hb dX9_priceOf_40 (by decide) (fun c_4 => ?_) (fun c_4 => ?_)
    · replace hE := it_t hE c_4
      refine lv_lload hx hb dX9_priceOf_63 (lv_at hl 0 rfl) ?_
      have hE := Option.some.inj hE
      exact el hx hb hr hlocks hK hP hD hS hE rfl dX9_priceOf_65
    · replace hE := it_f hE c_4
      refine lv_lload hx hb dX9_priceOf_43 (lv_at hl 0 rfl) ?_
      refine lv_lload hx hb dX9_priceOf_45 (lv_at hl 0 rfl) ?_
      refine lv_aload_n hx hb dX9_priceOf_47 rfl (lv_at hl 1 rfl) ?_
      refine va_get (D := D) (ci := 9) (v := .ref (aM 1)) (C := RX9) (T := TX9) (N := 13) hx hb hts iX9 hown hK hP 0 rfl rfl 0 (by decide) f7 (fun _ h9 => h9) rfl dX9_priceOf_48 ?_
      refine lv_bipush (v := 7) hx hb dX9_priceOf_51 (by decide) ?_
      refine va_lald hx hb hK hP 1 1 rfl rfl (show ¬ ((7 : Int32) < 0 ∨ 1888 ≤ (7 : Int32).toNatClampNeg) by decide) dX9_priceOf_53 ?_
      refine lv_lmul hx hb dX9_priceOf_54 ?_
      refine lv_ldc2 hx hb hown k58 dX9_priceOf_55 ?_
      refine lv_ldiv hx hb dX9_priceOf_58 (by decide) ?_
      refine lv_lsub hx hb dX9_priceOf_59 ?_
      refine lv_goto (tgt := 65) hx hb dX9_priceOf_60 (by decide) ?_
      have hE := Option.some.inj hE
      exact el hx hb hr hlocks hK hP hD hS hE rfl dX9_priceOf_65
  unfold f_X9_priceOf at hE
  refine lv_lload_n hx hb dX9_priceOf_0 rfl (lv_at hl 2 rfl) ?_
  refine lv_aload_n hx hb dX9_priceOf_1 rfl (lv_at hl 0 rfl) ?_
  refine va_get (D := D) (ci := 9) (v := .ref (aM 1)) (C := RX9) (T := TX9) (N := 13) hx hb hts iX9 hown hK hP 0 rfl rfl 0 (by decide) f7 (fun _ h9 => h9) rfl dX9_priceOf_2 ?_
  refine lv_iconst (v := 0) hx hb dX9_priceOf_5 (by decide) ?_
  refine lv_iload hx hb dX9_priceOf_6 (lv_at hl 3 rfl) ?_
  refine lv_iconst (v := 1) hx hb dX9_priceOf_8 (by decide) ?_
  refine lv_icmp_ne (tgt := 16) hx hb dX9_priceOf_9 (by decide) (fun c_5 => ?_) (fun c_5 => ?_)
  · replace hE := it_f hE c_5
    refine lv_iconst (v := 5) hx hb dX9_priceOf_16 (by decide) ?_
    exact h17 x1 (5 : Int32) (0 : Int32) x2 _ _ _ hE hP hD hS (lv_sub hl [0, 1] rfl)
  · replace hE := it_t hE c_5
    refine lv_iconst (v := 4) hx hb dX9_priceOf_12 (by decide) ?_
    refine lv_goto (tgt := 17) hx hb dX9_priceOf_13 (by decide) ?_
    exact h17 x1 (4 : Int32) (0 : Int32) x2 _ _ _ hE hP hD hS (lv_sub hl [0, 1] rfl)
abbrev rm_X9_accountOf : Room := { frames := 0, cells := 0, slots := 0, locals := 0 }
set_option maxHeartbeats 40000000 in
set_option maxRecDepth 100000 in
theorem c_X9_accountOf (l : Launch) (D : va_G) (cy : Nat → Nat) (aM : Nat → Nat) (x1 : Int32) (x2 : Int32) (imM : Mem) (inM : MemL) (r' : Int32) (hE : f_X9_accountOf x1 x2 imM inM = some r') : CI l yX9_accountOf wsX9_accountOf rm_X9_accountOf D cy [.ref (aM 0), .int x1, .int x2] (W_M cy aM imM inM) 0 0 r' (W_M cy aM imM inM) := by
  refine CQ_of (cc := cX9_accountOf) (maxL := 4) (ret := (some .int)) (by decide) rfl (Nat.le_of_ble_eq_true rfl) (fun p e s m args below meth c A ls hx hb hr hml hlocks hnm hown hts hA hK hN hP hD hS hl => ?_)
  have hown : s.vm.findClass RX9 = some m.cls := hown
  have hl : lv_has ls 4 [(0, .ref (aM 0)), (1, .int x1), (2, .int x2)] := hl
  have f7 : (Cond.fieldLink RX9 7 "IcePlantModel" "w" "[J").before args s = true := hts _ (mC qf_X9_7)
  have iX9 : ∀ w ∈ wsX90, w ∈ wsX9_accountOf := fun w h => mC (iA_X9 w h)
  have h50 : ∀ (x1 : Int32) (x2 : Int32) (x3 : Int32), ∀ (k2 : (Int32 → Option (Int32))), (∀ (x3 : Int32) (H : Heap) (locs : List Loc) (ls : Array Slot), k2 x3 = some r' → va_P D vwCl (W_M cy aM imM inM) H → va_D A (W_M cy aM imM inM) → va_S A s.heap H locs → lv_has ls 4 [(0, .ref (aM 0)), (1, .int x1), (2, .int x2), (3, .int x3)] → W p l e rm_X9_accountOf s m args below meth c H locs 0 0 (MQ below (QI D cy r' (W_M cy aM imM inM) A) args s 0 0 A) (F0 m 2 ls [])) → ∀  (H : Heap) (locs : List Loc) (ls : Array Slot), f_X9_accountOf_b50 k2 x1 x2 x3 imM inM = some r' → va_P D vwCl (W_M cy aM imM inM) H → va_D A (W_M cy aM imM inM) → va_S A s.heap H locs → lv_has ls 4 [(0, .ref (aM 0)), (1, .int x1), (2, .int x2), (3, .int x3)] → W p l e rm_X9_accountOf s m args below meth c H locs 0 0 (MQ below (QI D cy r' (W_M cy aM imM inM) A) args s 0 0 A) (F0 m 50 ls []) := by
    intro x1 x2 x3 k2 hk2 H locs ls hE hP hD hS hl
    replace hE : (lt' (x3 + (1 : Int32)) fun x3_1 => k2 x3_1) = some r' := hE
    obtain ⟨x3_1, e_x3_1, hE⟩ := lt_el hE
    refine lv_iinc (v := x3_1) (lv' := [(3, .int x3_1), (0, .ref (aM 0)), (1, .int x1), (2, .int x2)]) hx hb dX9_accountOf_50 hl (k := 3) rfl (by rw [e_x3_1]; rfl) (by decide) rfl (fun ls hl => ?_)
    refine lv_goto (tgt := 2) hx hb dX9_accountOf_53 (by decide) ?_
    exact hk2 x3_1 _ _ _ hE hP hD hS (lv_sub hl [1, 2, 3, 0] rfl)
  have h2 : ∀ (x1 : Int32) (x2 : Int32), ∀ (n : Nat), ∀ (x3 : Int32) (H : Heap) (locs : List Loc) (ls : Array Slot), f_X9_accountOf_L2 x1 x2 imM inM n x3 = some r' → va_P D vwCl (W_M cy aM imM inM) H → va_D A (W_M cy aM imM inM) → va_S A s.heap H locs → lv_has ls 4 [(0, .ref (aM 0)), (1, .int x1), (2, .int x2), (3, .int x3)] → W p l e rm_X9_accountOf s m args below meth c H locs 0 0 (MQ below (QI D cy r' (W_M cy aM imM inM) A) args s 0 0 A) (F0 m 2 ls []) := by
    intro x1 x2 n
    induction n with
    | zero => intro x3 H locs ls hE; exact absurd hE (fun h9 => nomatch h9)
    | succ n ih =>
      intro x3 H locs ls hE hP hD hS hl
      replace hE : ((if 0 ≤ (lg_cmp (x3.toInt64) (inM 0 (1886 : Int32).toNatClampNeg)) then some (-1 : Int32) else gi ((1811 : Int32) + x3) 1888 ((if (lg_cmp (inM 0 ((1811 : Int32) + x3).toNatClampNeg) (x1.toInt64)) = 0 then gi ((1827 : Int32) + x3) 1888 ((if (lg_cmp (inM 0 ((1827 : Int32) + x3).toNatClampNeg) (x2.toInt64)) = 0 then some x3 else f_X9_accountOf_b50 (f_X9_accountOf_L2 x1 x2 imM inM n) x1 x2 x3 imM inM)) else f_X9_accountOf_b50 (f_X9_accountOf_L2 x1 x2 imM inM n) x1 x2 x3 imM inM)))) = some r' := hE
      refine lv_iload_n hx hb dX9_accountOf_2 rfl (lv_at hl 3 rfl) ?_
      refine lv_i2l hx hb dX9_accountOf_3 rfl ?_
      refine lv_aload_n hx hb dX9_accountOf_4 rfl (lv_at hl 0 rfl) ?_
      refine va_get (D := D) (ci := 9) (v := .ref (aM 1)) (C := RX9) (T := TX9) (N := 13) hx hb hts iX9 hown hK hP 0 rfl rfl 0 (by decide) f7 (fun _ h9 => h9) rfl dX9_accountOf_5 ?_
      refine lv_sipush (v := 1886) hx hb dX9_accountOf_8 (by decide) ?_
      refine va_lald hx hb hK hP 1 1 rfl rfl (show ¬ ((1886 : Int32) < 0 ∨ 1888 ≤ (1886 : Int32).toNatClampNeg) by decide) dX9_accountOf_11 ?_
      refine W.lcmp hx hb dX9_accountOf_12 ?_
      refine lv_if_ge (tgt := 56) hx hb dX9_accountOf_13 (by decide) (fun c_2 => ?_) (fun c_2 => ?_)
      · replace hE := it_t hE c_2
        refine lv_iconst (v := (-1)) hx hb dX9_accountOf_56 (by decide) ?_
        have hE := Option.some.inj hE
        exact ei hx hb hr hlocks hK hP hD hS hE rfl dX9_accountOf_57
      · replace hE := it_f hE c_2
        refine lv_aload_n hx hb dX9_accountOf_16 rfl (lv_at hl 0 rfl) ?_
        refine va_get (D := D) (ci := 9) (v := .ref (aM 1)) (C := RX9) (T := TX9) (N := 13) hx hb hts iX9 hown hK hP 0 rfl rfl 0 (by decide) f7 (fun _ h9 => h9) rfl dX9_accountOf_17 ?_
        refine lv_sipush (v := 1811) hx hb dX9_accountOf_20 (by decide) ?_
        refine lv_iload_n hx hb dX9_accountOf_23 rfl (lv_at hl 3 rfl) ?_
        refine lv_iadd hx hb dX9_accountOf_24 ?_
        obtain ⟨g_3, hE⟩ := gi_el hE
        refine va_lald hx hb hK hP 1 1 rfl rfl g_3 dX9_accountOf_25 ?_
        refine lv_iload_n hx hb dX9_accountOf_26 rfl (lv_at hl 1 rfl) ?_
        refine lv_i2l hx hb dX9_accountOf_27 rfl ?_
        refine W.lcmp hx hb dX9_accountOf_28 ?_
        refine lv_if_ne (tgt := 50) hx hb dX9_accountOf_29 (by decide) (fun c_4 => ?_) (fun c_4 => ?_)
        · replace hE := it_f hE c_4
          exact h50 x1 x2 x3 (f_X9_accountOf_L2 x1 x2 imM inM n) ih _ _ _ hE hP hD hS (lv_sub hl [0, 1, 2, 3] rfl)
        · replace hE := it_t hE c_4
          refine lv_aload_n hx hb dX9_accountOf_32 rfl (lv_at hl 0 rfl) ?_
          refine va_get (D := D) (ci := 9) (v := .ref (aM 1)) (C := RX9) (T := TX9) (N := 13) hx hb hts iX9 hown hK hP 0 rfl rfl 0 (by decide) f7 (fun _ h9 => h9) rfl dX9_accountOf_33 ?_
          refine lv_sipush (v := 1827) hx hb dX9_accountOf_36 (by decide) ?_
          refine lv_iload_n hx hb dX9_accountOf_39 rfl (lv_at hl 3 rfl) ?_
          refine lv_iadd hx hb dX9_accountOf_40 ?_
          obtain ⟨g_5, hE⟩ := gi_el hE
          refine va_lald hx hb hK hP 1 1 rfl rfl g_5 dX9_accountOf_41 ?_
          refine lv_iload_n hx hb dX9_accountOf_42 rfl (lv_at hl 2 rfl) ?_
          refine lv_i2l hx hb dX9_accountOf_43 rfl ?_
          refine W.lcmp hx hb dX9_accountOf_44 ?_
          refine lv_if_ne (tgt := 50) hx hb dX9_accountOf_45 (by decide) (fun c_6 => ?_) (fun c_6 => ?_)
          · replace hE := it_f hE c_6
            exact h50 x1 x2 x3 (f_X9_accountOf_L2 x1 x2 imM inM n) ih _ _ _ hE hP hD hS (lv_sub hl [0, 1, 2, 3] rfl)
          · replace hE := it_t hE c_6
            refine lv_iload_n hx hb dX9_accountOf_48 rfl (lv_at hl 3 rfl) ?_
            have hE := Option.some.inj hE
            exact ei hx hb hr hlocks hK hP hD hS hE rfl dX9_accountOf_49
  unfold f_X9_accountOf at hE
  refine lv_iconst (v := 0) hx hb dX9_accountOf_0 (by decide) ?_
  refine lv_istore_n (lv' := [(3, .int (0 : Int32)), (0, .ref (aM 0)), (1, .int x1), (2, .int x2)]) hx hb dX9_accountOf_1 rfl hl (by decide) rfl (fun ls hl => ?_)
  exact h2 x1 x2 fuel (0 : Int32) _ _ _ hE hP hD hS (lv_sub hl [1, 2, 3, 0] rfl)
abbrev rm_X9_enter : Room := { frames := 2, cells := 0, slots := 0, locals := 45 }
set_option maxHeartbeats 40000000 in
set_option maxRecDepth 100000 in
theorem c_X9_enter (l : Launch) (D : va_G) (cy : Nat → Nat) (aM : Nat → Nat) (x1 : Int32) (x2 : Int64) (x4 : Int64) (imM : Mem) (inM : MemL) (nM' : MemL) (hE : f_X9_enter x1 x2 x4 imM inM = some nM') : CV l yX9_enter wsX9_enter rm_X9_enter D cy [.ref (aM 0), .int x1, .long x2, .long x4] (W_M cy aM imM inM) 0 0 (W_M cy aM imM nM') := by
  refine CQ_of (cc := cX9_enter) (maxL := 7) (ret := none) (by decide) rfl (Nat.le_of_ble_eq_true rfl) (fun p e s m args below meth c A ls hx hb hr hml hlocks hnm hown hts hA hK hN hP hD hS hl => ?_)
  have hown : s.vm.findClass RX9 = some m.cls := hown
  have hl : lv_has ls 7 [(0, .ref (aM 0)), (1, .int x1), (2, .long x2), (4, .long x4)] := hl
  have hC : CallFix p m c cX9_enter 7 s args wsX9_enter RX9 := ⟨hx, hb, hml, hown, hts⟩
  have f7 : (Cond.fieldLink RX9 7 "IcePlantModel" "w" "[J").before args s = true := hts _ (mC qf_X9_7)
  have iX9 : ∀ w ∈ wsX90, w ∈ wsX9_enter := fun w h => mC (iA_X9 w h)
  have h69 : ∀ (x2 : Int64) (x4 : Int64) (x6 : Int32) (nM : MemL), ∀  (H : Heap) (locs : List Loc) (ls : Array Slot), f_X9_enter_b69 x2 x4 x6 imM nM = some nM' → va_P D vwCl (W_M cy aM imM nM) H → va_D A (W_M cy aM imM nM) → va_S A s.heap H locs → lv_has ls 7 [(0, .ref (aM 0)), (2, .long x2), (4, .long x4), (6, .int x6)] → W p l e rm_X9_enter s m args below meth c H locs 0 0 (MQ below (QV D cy (W_M cy aM imM nM') A) args s 0 0 A) (F0 m 69 ls []) := by
    intro x2 x4 x6 nM H locs ls hE hP hD hS hl
    replace hE : (gi ((1843 : Int32) + x6) 1888 (gi ((1843 : Int32) + x6) 1888 (lt' (wrL nM 0 (vp_updL (nM 0) ((1843 : Int32) + x6).toNatClampNeg ((nM 0 ((1843 : Int32) + x6).toNatClampNeg) + x2))) fun nM_2 => gi ((1859 : Int32) + x6) 1888 (gi ((1859 : Int32) + x6) 1888 (lt' (wrL nM_2 0 (vp_updL (nM_2 0) ((1859 : Int32) + x6).toNatClampNeg ((nM_2 0 ((1859 : Int32) + x6).toNatClampNeg) + x4))) fun nM_5 => some nM_5))))) = some nM' := hE
    refine lv_aload_n hx hb dX9_enter_69 rfl (lv_at hl 0 rfl) ?_
    refine va_get (D := D) (ci := 9) (v := .ref (aM 1)) (C := RX9) (T := TX9) (N := 13) hx hb hts iX9 hown hK hP 0 rfl rfl 0 (by decide) f7 (fun _ h9 => h9) rfl dX9_enter_70 ?_
    refine lv_sipush (v := 1843) hx hb dX9_enter_73 (by decide) ?_
    refine lv_iload hx hb dX9_enter_76 (lv_at hl 3 rfl) ?_
    refine lv_iadd hx hb dX9_enter_78 ?_
    refine lv_dup2_11 hx hb dX9_enter_79 rfl rfl ?_
    obtain ⟨g_1, hE⟩ := gi_el hE
    refine va_lald hx hb hK hP 1 1 rfl rfl g_1 dX9_enter_80 ?_
    refine lv_lload_n hx hb dX9_enter_81 rfl (lv_at hl 1 rfl) ?_
    refine lv_ladd hx hb dX9_enter_82 ?_
    obtain ⟨g_3, hE⟩ := gi_el hE
    obtain ⟨nM_2, e_nM_2, hE⟩ := lt_el hE
    refine s_la (ws1 := (W_M cy aM imM nM_2)) hx hb hK hP hD hS 1 rfl g_3 (by rw [e_nM_2]; rfl) dX9_enter_83 (fun H locs hP hD hS => ?_)
    refine lv_aload_n hx hb dX9_enter_84 rfl (lv_at hl 0 rfl) ?_
    refine va_get (D := D) (ci := 9) (v := .ref (aM 1)) (C := RX9) (T := TX9) (N := 13) hx hb hts iX9 hown hK hP 0 rfl rfl 0 (by decide) f7 (fun _ h9 => h9) rfl dX9_enter_85 ?_
    refine lv_sipush (v := 1859) hx hb dX9_enter_88 (by decide) ?_
    refine lv_iload hx hb dX9_enter_91 (lv_at hl 3 rfl) ?_
    refine lv_iadd hx hb dX9_enter_93 ?_
    refine lv_dup2_11 hx hb dX9_enter_94 rfl rfl ?_
    obtain ⟨g_4, hE⟩ := gi_el hE
    refine va_lald hx hb hK hP 1 1 rfl rfl g_4 dX9_enter_95 ?_
    refine lv_lload hx hb dX9_enter_96 (lv_at hl 2 rfl) ?_
    refine lv_ladd hx hb dX9_enter_98 ?_
    obtain ⟨g_6, hE⟩ := gi_el hE
    obtain ⟨nM_5, e_nM_5, hE⟩ := lt_el hE
    refine s_la (ws1 := (W_M cy aM imM nM_5)) hx hb hK hP hD hS 1 rfl g_6 (by rw [e_nM_5]; rfl) dX9_enter_99 (fun H locs hP hD hS => ?_)
    have hE := Option.some.inj hE
    exact ev hx hb hr hlocks hK hP hD hS (by rw [hE]) dX9_enter_100
  unfold f_X9_enter at hE
  refine lv_aload_n hx hb dX9_enter_0 rfl (lv_at hl 0 rfl) ?_
  refine lv_iload_n hx hb dX9_enter_1 rfl (lv_at hl 1 rfl) ?_
  refine lv_aload_n hx hb dX9_enter_2 rfl (lv_at hl 0 rfl) ?_
  obtain ⟨r_7, hc_8, hE⟩ := bd1_el hE
  refine ki (X := []) (Y := []) (ws1 := (W_M cy aM imM inM)) (rV (X := []) (Y := []) (As := []) (rest := [.int x1, .ref (aM 0)]) hC (c_X9_bandNow l D cy aM imM inM r_7 hc_8) (cwV 0 hts gX9_enter_X9_bandNow rfl rfl rfl cd_X9_bandNow ⟨Nat.le_of_ble_eq_true rfl, Nat.le_of_ble_eq_true rfl⟩) hK hN hP hD hS hA rfl 0 9 rfl rfl rfl hl.1 rfl (lv_room (Nat.le_of_ble_eq_true rfl)) dX9_enter_3 ⟨Nat.le_of_ble_eq_true rfl, Nat.le_of_ble_eq_true rfl⟩) hP hD hS hA rfl rfl rfl (fun H locs hP hD hS => ?_)
  obtain ⟨r_9, hc_10, hE⟩ := bd1_el hE
  refine ki (X := []) (Y := []) (ws1 := (W_M cy aM imM inM)) (rV (X := []) (Y := []) (As := [.int x1, .int r_7]) (rest := []) hC (c_X9_accountOf l D cy aM x1 r_7 imM inM r_9 hc_10) (cwV 2 hts gX9_enter_X9_accountOf rfl rfl rfl cd_X9_accountOf ⟨Nat.le_of_ble_eq_true rfl, Nat.le_of_ble_eq_true rfl⟩) hK hN hP hD hS hA rfl 0 9 rfl rfl rfl hl.1 rfl (lv_room (Nat.le_of_ble_eq_true rfl)) dX9_enter_6 ⟨Nat.le_of_ble_eq_true rfl, Nat.le_of_ble_eq_true rfl⟩) hP hD hS hA rfl rfl rfl (fun H locs hP hD hS => ?_)
  refine lv_istore (lv' := [(6, .int r_9), (0, .ref (aM 0)), (1, .int x1), (2, .long x2), (4, .long x4)]) hx hb dX9_enter_9 hl (by decide) rfl (fun ls hl => ?_)
  refine lv_iload hx hb dX9_enter_11 (lv_at hl 0 rfl) ?_
  refine lv_iconst (v := (-1)) hx hb dX9_enter_13 (by decide) ?_
  refine lv_icmp_ne (tgt := 69) hx hb dX9_enter_14 (by decide) (fun c_11 => ?_) (fun c_11 => ?_)
  · replace hE := it_f hE c_11
    exact h69 x2 x4 r_9 inM _ _ _ hE hP hD hS (lv_sub hl [1, 3, 4, 0] rfl)
  · replace hE := it_t hE c_11
    refine lv_aload_n hx hb dX9_enter_17 rfl (lv_at hl 1 rfl) ?_
    refine va_get (D := D) (ci := 9) (v := .ref (aM 1)) (C := RX9) (T := TX9) (N := 13) hx hb hts iX9 hown hK hP 0 rfl rfl 0 (by decide) f7 (fun _ h9 => h9) rfl dX9_enter_18 ?_
    refine lv_sipush (v := 1886) hx hb dX9_enter_21 (by decide) ?_
    refine va_lald hx hb hK hP 1 1 rfl rfl (show ¬ ((1886 : Int32) < 0 ∨ 1888 ≤ (1886 : Int32).toNatClampNeg) by decide) dX9_enter_24 ?_
    refine lv_l2i hx hb dX9_enter_25 rfl ?_
    obtain ⟨x6_12, e_x6_12, hE⟩ := lt_el hE
    refine s_nm e_x6_12 ?_
    refine lv_istore (lv' := [(6, .int x6_12), (0, .ref (aM 0)), (1, .int x1), (2, .long x2), (4, .long x4)]) hx hb dX9_enter_26 hl (by decide) rfl (fun ls hl => ?_)
    refine lv_aload_n hx hb dX9_enter_28 rfl (lv_at hl 1 rfl) ?_
    refine va_get (D := D) (ci := 9) (v := .ref (aM 1)) (C := RX9) (T := TX9) (N := 13) hx hb hts iX9 hown hK hP 0 rfl rfl 0 (by decide) f7 (fun _ h9 => h9) rfl dX9_enter_29 ?_
    refine lv_sipush (v := 1886) hx hb dX9_enter_32 (by decide) ?_
    refine lv_dup2_11 hx hb dX9_enter_35 rfl rfl ?_
    refine va_lald hx hb hK hP 1 1 rfl rfl (show ¬ ((1886 : Int32) < 0 ∨ 1888 ≤ (1886 : Int32).toNatClampNeg) by decide) dX9_enter_36 ?_
    refine lv_lconst (v := 1) hx hb dX9_enter_37 (by decide) ?_
    refine lv_ladd hx hb dX9_enter_38 ?_
    obtain ⟨nM_13, e_nM_13, hE⟩ := lt_el hE
    refine s_la (ws1 := (W_M cy aM imM nM_13)) hx hb hK hP hD hS 1 rfl (show ¬ ((1886 : Int32) < 0 ∨ 1888 ≤ (1886 : Int32).toNatClampNeg) by decide) (by rw [e_nM_13]; rfl) dX9_enter_39 (fun H locs hP hD hS => ?_)
    refine lv_aload_n hx hb dX9_enter_40 rfl (lv_at hl 1 rfl) ?_
    refine va_get (D := D) (ci := 9) (v := .ref (aM 1)) (C := RX9) (T := TX9) (N := 13) hx hb hts iX9 hown hK hP 0 rfl rfl 0 (by decide) f7 (fun _ h9 => h9) rfl dX9_enter_41 ?_
    refine lv_sipush (v := 1811) hx hb dX9_enter_44 (by decide) ?_
    refine lv_iload hx hb dX9_enter_47 (lv_at hl 0 rfl) ?_
    refine lv_iadd hx hb dX9_enter_49 ?_
    refine lv_iload_n hx hb dX9_enter_50 rfl (lv_at hl 2 rfl) ?_
    refine lv_i2l hx hb dX9_enter_51 rfl ?_
    obtain ⟨g_15, hE⟩ := gi_el hE
    obtain ⟨nM_14, e_nM_14, hE⟩ := lt_el hE
    refine s_la (ws1 := (W_M cy aM imM nM_14)) hx hb hK hP hD hS 1 rfl g_15 (by rw [e_nM_14]; rfl) dX9_enter_52 (fun H locs hP hD hS => ?_)
    refine lv_aload_n hx hb dX9_enter_53 rfl (lv_at hl 1 rfl) ?_
    refine va_get (D := D) (ci := 9) (v := .ref (aM 1)) (C := RX9) (T := TX9) (N := 13) hx hb hts iX9 hown hK hP 0 rfl rfl 0 (by decide) f7 (fun _ h9 => h9) rfl dX9_enter_54 ?_
    refine lv_sipush (v := 1827) hx hb dX9_enter_57 (by decide) ?_
    refine lv_iload hx hb dX9_enter_60 (lv_at hl 0 rfl) ?_
    refine lv_iadd hx hb dX9_enter_62 ?_
    refine lv_aload_n hx hb dX9_enter_63 rfl (lv_at hl 1 rfl) ?_
    obtain ⟨r_16, hc_17, hE⟩ := bd1_el hE
    refine ki (X := []) (Y := []) (ws1 := (W_M cy aM imM nM_14)) (rV (X := []) (Y := []) (As := []) (rest := [.int ((1827 : Int32) + x6_12), .ref (aM 1)]) hC (c_X9_bandNow l D cy aM imM nM_14 r_16 hc_17) (cwV 0 hts gX9_enter_X9_bandNow rfl rfl rfl cd_X9_bandNow ⟨Nat.le_of_ble_eq_true rfl, Nat.le_of_ble_eq_true rfl⟩) hK hN hP hD hS hA rfl 0 9 rfl rfl rfl hl.1 rfl (lv_room (Nat.le_of_ble_eq_true rfl)) dX9_enter_64 ⟨Nat.le_of_ble_eq_true rfl, Nat.le_of_ble_eq_true rfl⟩) hP hD hS hA rfl rfl rfl (fun H locs hP hD hS => ?_)
    refine lv_i2l hx hb dX9_enter_67 rfl ?_
    obtain ⟨g_19, hE⟩ := gi_el hE
    obtain ⟨nM_18, e_nM_18, hE⟩ := lt_el hE
    refine s_la (ws1 := (W_M cy aM imM nM_18)) hx hb hK hP hD hS 1 rfl g_19 (by rw [e_nM_18]; rfl) dX9_enter_68 (fun H locs hP hD hS => ?_)
    exact h69 x2 x4 x6_12 nM_18 _ _ _ hE hP hD hS (lv_sub hl [1, 3, 4, 0] rfl)
abbrev rm_X9_giveReceipt : Room := { frames := 0, cells := 0, slots := 0, locals := 0 }
set_option maxHeartbeats 40000000 in
set_option maxRecDepth 100000 in
theorem c_X9_giveReceipt (l : Launch) (D : va_G) (cy : Nat → Nat) (aM : Nat → Nat) (x1 : Int32) (x2 : Int64) (x4 : Int64) (imM : Mem) (inM : MemL) (nM' : MemL) (hE : f_X9_giveReceipt x1 x2 x4 imM inM = some nM') : CV l yX9_giveReceipt wsX9_giveReceipt rm_X9_giveReceipt D cy [.ref (aM 0), .int x1, .long x2, .long x4] (W_M cy aM imM inM) 0 0 (W_M cy aM imM nM') := by
  refine CQ_of (cc := cX9_giveReceipt) (maxL := 9) (ret := none) (by decide) rfl (Nat.le_of_ble_eq_true rfl) (fun p e s m args below meth c A ls hx hb hr hml hlocks hnm hown hts hA hK hN hP hD hS hl => ?_)
  have hown : s.vm.findClass RX9 = some m.cls := hown
  have hl : lv_has ls 9 [(0, .ref (aM 0)), (1, .int x1), (2, .long x2), (4, .long x4)] := hl
  have f7 : (Cond.fieldLink RX9 7 "IcePlantModel" "w" "[J").before args s = true := hts _ (mC qf_X9_7)
  have iX9 : ∀ w ∈ wsX90, w ∈ wsX9_giveReceipt := fun w h => mC (iA_X9 w h)
  have k139 : (Cond.constant RX9 139 (65537)).before args s = true := hts _ (mC qk_X9_139)
  have k140 : (Cond.constantLong RX9 140 (16)).before args s = true := hts _ (mC qk_X9_140)
  have h230 : ∀ (x1 : Int32) (x2 : Int64) (x4 : Int64) (x7 : Int32) (nM : MemL), ∀  (H : Heap) (locs : List Loc) (ls : Array Slot), f_X9_giveReceipt_b230 x1 x2 x4 x7 imM nM = some nM' → va_P D vwCl (W_M cy aM imM nM) H → va_D A (W_M cy aM imM nM) → va_S A s.heap H locs → lv_has ls 9 [(0, .ref (aM 0)), (1, .int x1), (2, .long x2), (4, .long x4), (7, .int x7)] → W p l e rm_X9_giveReceipt s m args below meth c H locs 0 0 (MQ below (QV D cy (W_M cy aM imM nM') A) args s 0 0 A) (F0 m 230 ls []) := by
    intro x1 x2 x4 x7 nM H locs ls hE hP hD hS hl
    replace hE : (lt' ((nM 0 (1885 : Int32).toNatClampNeg).toInt32) fun x8_1 => lt' (wrL nM 0 (vp_updL (nM 0) (1885 : Int32).toNatClampNeg ((nM 0 (1885 : Int32).toNatClampNeg) + (1 : Int64)))) fun nM_2 => gi ((1731 : Int32) + x8_1) 1888 (lt' (wrL nM_2 0 (vp_updL (nM_2 0) ((1731 : Int32) + x8_1).toNatClampNeg (x1.toInt64))) fun nM_3 => gi ((1747 : Int32) + x8_1) 1888 (lt' (wrL nM_3 0 (vp_updL (nM_3 0) ((1747 : Int32) + x8_1).toNatClampNeg x2)) fun nM_5 => gi ((1763 : Int32) + x8_1) 1888 (lt' (wrL nM_5 0 (vp_updL (nM_5 0) ((1763 : Int32) + x8_1).toNatClampNeg x4)) fun nM_7 => gi ((1779 : Int32) + x8_1) 1888 (lt' (wrL nM_7 0 (vp_updL (nM_7 0) ((1779 : Int32) + x8_1).toNatClampNeg (nM_7 0 (1875 : Int32).toNatClampNeg))) fun nM_9 => gi ((1795 : Int32) + x8_1) 1888 (lt' (wrL nM_9 0 (vp_updL (nM_9 0) ((1795 : Int32) + x8_1).toNatClampNeg (x7.toInt64))) fun nM_11 => some nM_11)))))) = some nM' := hE
    refine lv_aload_n hx hb dX9_giveReceipt_230 rfl (lv_at hl 0 rfl) ?_
    refine va_get (D := D) (ci := 9) (v := .ref (aM 1)) (C := RX9) (T := TX9) (N := 13) hx hb hts iX9 hown hK hP 0 rfl rfl 0 (by decide) f7 (fun _ h9 => h9) rfl dX9_giveReceipt_231 ?_
    refine lv_sipush (v := 1885) hx hb dX9_giveReceipt_234 (by decide) ?_
    refine va_lald hx hb hK hP 1 1 rfl rfl (show ¬ ((1885 : Int32) < 0 ∨ 1888 ≤ (1885 : Int32).toNatClampNeg) by decide) dX9_giveReceipt_237 ?_
    refine lv_l2i hx hb dX9_giveReceipt_238 rfl ?_
    obtain ⟨x8_1, e_x8_1, hE⟩ := lt_el hE
    refine s_nm e_x8_1 ?_
    refine lv_istore (lv' := [(8, .int x8_1), (0, .ref (aM 0)), (1, .int x1), (2, .long x2), (4, .long x4), (7, .int x7)]) hx hb dX9_giveReceipt_239 hl (by decide) rfl (fun ls hl => ?_)
    refine lv_aload_n hx hb dX9_giveReceipt_241 rfl (lv_at hl 1 rfl) ?_
    refine va_get (D := D) (ci := 9) (v := .ref (aM 1)) (C := RX9) (T := TX9) (N := 13) hx hb hts iX9 hown hK hP 0 rfl rfl 0 (by decide) f7 (fun _ h9 => h9) rfl dX9_giveReceipt_242 ?_
    refine lv_sipush (v := 1885) hx hb dX9_giveReceipt_245 (by decide) ?_
    refine lv_dup2_11 hx hb dX9_giveReceipt_248 rfl rfl ?_
    refine va_lald hx hb hK hP 1 1 rfl rfl (show ¬ ((1885 : Int32) < 0 ∨ 1888 ≤ (1885 : Int32).toNatClampNeg) by decide) dX9_giveReceipt_249 ?_
    refine lv_lconst (v := 1) hx hb dX9_giveReceipt_250 (by decide) ?_
    refine lv_ladd hx hb dX9_giveReceipt_251 ?_
    obtain ⟨nM_2, e_nM_2, hE⟩ := lt_el hE
    refine s_la (ws1 := (W_M cy aM imM nM_2)) hx hb hK hP hD hS 1 rfl (show ¬ ((1885 : Int32) < 0 ∨ 1888 ≤ (1885 : Int32).toNatClampNeg) by decide) (by rw [e_nM_2]; rfl) dX9_giveReceipt_252 (fun H locs hP hD hS => ?_)
    refine lv_aload_n hx hb dX9_giveReceipt_253 rfl (lv_at hl 1 rfl) ?_
    refine va_get (D := D) (ci := 9) (v := .ref (aM 1)) (C := RX9) (T := TX9) (N := 13) hx hb hts iX9 hown hK hP 0 rfl rfl 0 (by decide) f7 (fun _ h9 => h9) rfl dX9_giveReceipt_254 ?_
    refine lv_sipush (v := 1731) hx hb dX9_giveReceipt_257 (by decide) ?_
    refine lv_iload hx hb dX9_giveReceipt_260 (lv_at hl 0 rfl) ?_
    refine lv_iadd hx hb dX9_giveReceipt_262 ?_
    refine lv_iload_n hx hb dX9_giveReceipt_263 rfl (lv_at hl 2 rfl) ?_
    refine lv_i2l hx hb dX9_giveReceipt_264 rfl ?_
    obtain ⟨g_4, hE⟩ := gi_el hE
    obtain ⟨nM_3, e_nM_3, hE⟩ := lt_el hE
    refine s_la (ws1 := (W_M cy aM imM nM_3)) hx hb hK hP hD hS 1 rfl g_4 (by rw [e_nM_3]; rfl) dX9_giveReceipt_265 (fun H locs hP hD hS => ?_)
    refine lv_aload_n hx hb dX9_giveReceipt_266 rfl (lv_at hl 1 rfl) ?_
    refine va_get (D := D) (ci := 9) (v := .ref (aM 1)) (C := RX9) (T := TX9) (N := 13) hx hb hts iX9 hown hK hP 0 rfl rfl 0 (by decide) f7 (fun _ h9 => h9) rfl dX9_giveReceipt_267 ?_
    refine lv_sipush (v := 1747) hx hb dX9_giveReceipt_270 (by decide) ?_
    refine lv_iload hx hb dX9_giveReceipt_273 (lv_at hl 0 rfl) ?_
    refine lv_iadd hx hb dX9_giveReceipt_275 ?_
    refine lv_lload_n hx hb dX9_giveReceipt_276 rfl (lv_at hl 3 rfl) ?_
    obtain ⟨g_6, hE⟩ := gi_el hE
    obtain ⟨nM_5, e_nM_5, hE⟩ := lt_el hE
    refine s_la (ws1 := (W_M cy aM imM nM_5)) hx hb hK hP hD hS 1 rfl g_6 (by rw [e_nM_5]; rfl) dX9_giveReceipt_277 (fun H locs hP hD hS => ?_)
    refine lv_aload_n hx hb dX9_giveReceipt_278 rfl (lv_at hl 1 rfl) ?_
    refine va_get (D := D) (ci := 9) (v := .ref (aM 1)) (C := RX9) (T := TX9) (N := 13) hx hb hts iX9 hown hK hP 0 rfl rfl 0 (by decide) f7 (fun _ h9 => h9) rfl dX9_giveReceipt_279 ?_
    refine lv_sipush (v := 1763) hx hb dX9_giveReceipt_282 (by decide) ?_
    refine lv_iload hx hb dX9_giveReceipt_285 (lv_at hl 0 rfl) ?_
    refine lv_iadd hx hb dX9_giveReceipt_287 ?_
    refine lv_lload hx hb dX9_giveReceipt_288 (lv_at hl 4 rfl) ?_
    obtain ⟨g_8, hE⟩ := gi_el hE
    obtain ⟨nM_7, e_nM_7, hE⟩ := lt_el hE
    refine s_la (ws1 := (W_M cy aM imM nM_7)) hx hb hK hP hD hS 1 rfl g_8 (by rw [e_nM_7]; rfl) dX9_giveReceipt_290 (fun H locs hP hD hS => ?_)
    refine lv_aload_n hx hb dX9_giveReceipt_291 rfl (lv_at hl 1 rfl) ?_
    refine va_get (D := D) (ci := 9) (v := .ref (aM 1)) (C := RX9) (T := TX9) (N := 13) hx hb hts iX9 hown hK hP 0 rfl rfl 0 (by decide) f7 (fun _ h9 => h9) rfl dX9_giveReceipt_292 ?_
    refine lv_sipush (v := 1779) hx hb dX9_giveReceipt_295 (by decide) ?_
    refine lv_iload hx hb dX9_giveReceipt_298 (lv_at hl 0 rfl) ?_
    refine lv_iadd hx hb dX9_giveReceipt_300 ?_
    refine lv_aload_n hx hb dX9_giveReceipt_301 rfl (lv_at hl 1 rfl) ?_
    refine va_get (D := D) (ci := 9) (v := .ref (aM 1)) (C := RX9) (T := TX9) (N := 13) hx hb hts iX9 hown hK hP 0 rfl rfl 0 (by decide) f7 (fun _ h9 => h9) rfl dX9_giveReceipt_302 ?_
    refine lv_sipush (v := 1875) hx hb dX9_giveReceipt_305 (by decide) ?_
    refine va_lald hx hb hK hP 1 1 rfl rfl (show ¬ ((1875 : Int32) < 0 ∨ 1888 ≤ (1875 : Int32).toNatClampNeg) by decide) dX9_giveReceipt_308 ?_
    obtain ⟨g_10, hE⟩ := gi_el hE
    obtain ⟨nM_9, e_nM_9, hE⟩ := lt_el hE
    refine s_la (ws1 := (W_M cy aM imM nM_9)) hx hb hK hP hD hS 1 rfl g_10 (by rw [e_nM_9]; rfl) dX9_giveReceipt_309 (fun H locs hP hD hS => ?_)
    refine lv_aload_n hx hb dX9_giveReceipt_310 rfl (lv_at hl 1 rfl) ?_
    refine va_get (D := D) (ci := 9) (v := .ref (aM 1)) (C := RX9) (T := TX9) (N := 13) hx hb hts iX9 hown hK hP 0 rfl rfl 0 (by decide) f7 (fun _ h9 => h9) rfl dX9_giveReceipt_311 ?_
    refine lv_sipush (v := 1795) hx hb dX9_giveReceipt_314 (by decide) ?_
    refine lv_iload hx hb dX9_giveReceipt_317 (lv_at hl 0 rfl) ?_
    refine lv_iadd hx hb dX9_giveReceipt_319 ?_
    refine lv_iload hx hb dX9_giveReceipt_320 (lv_at hl 5 rfl) ?_
    refine lv_i2l hx hb dX9_giveReceipt_322 rfl ?_
    obtain ⟨g_12, hE⟩ := gi_el hE
    obtain ⟨nM_11, e_nM_11, hE⟩ := lt_el hE
    refine s_la (ws1 := (W_M cy aM imM nM_11)) hx hb hK hP hD hS 1 rfl g_12 (by rw [e_nM_11]; rfl) dX9_giveReceipt_323 (fun H locs hP hD hS => ?_)
    have hE := Option.some.inj hE
    exact ev hx hb hr hlocks hK hP hD hS (by rw [hE]) dX9_giveReceipt_324
  have h85 : ∀ (x1 : Int32) (x2 : Int64) (x4 : Int64) (x7 : Int32), ∀ (n : Nat), ∀ (x8 : Int32) (nM : MemL) (H : Heap) (locs : List Loc) (ls : Array Slot), f_X9_giveReceipt_L85 x1 x2 x4 x7 imM n x8 nM = some nM' → va_P D vwCl (W_M cy aM imM nM) H → va_D A (W_M cy aM imM nM) → va_S A s.heap H locs → lv_has ls 9 [(0, .ref (aM 0)), (1, .int x1), (2, .long x2), (4, .long x4), (7, .int x7), (8, .int x8)] → W p l e rm_X9_giveReceipt s m args below meth c H locs 0 0 (MQ below (QV D cy (W_M cy aM imM nM') A) args s 0 0 A) (F0 m 85 ls []) := by
    intro x1 x2 x4 x7 n
    induction n with
    | zero => intro x8 nM H locs ls hE; exact absurd hE (fun h9 => nomatch h9)
    | succ n ih =>
      intro x8 nM H locs ls hE hP hD hS hl
      replace hE : ((if (15 : Int32) ≤ x8 then lt' (wrL nM 0 (vp_updL (nM 0) (1885 : Int32).toNatClampNeg ((nM 0 (1885 : Int32).toNatClampNeg) - (1 : Int64)))) fun nM_14 => f_X9_giveReceipt_b230 x1 x2 x4 x7 imM nM_14 else gi (((1731 : Int32) + x8) + (1 : Int32)) 1888 (gi ((1731 : Int32) + x8) 1888 (lt' (wrL nM 0 (vp_updL (nM 0) ((1731 : Int32) + x8).toNatClampNeg (nM 0 (((1731 : Int32) + x8) + (1 : Int32)).toNatClampNeg))) fun nM_16 => gi (((1747 : Int32) + x8) + (1 : Int32)) 1888 (gi ((1747 : Int32) + x8) 1888 (lt' (wrL nM_16 0 (vp_updL (nM_16 0) ((1747 : Int32) + x8).toNatClampNeg (nM_16 0 (((1747 : Int32) + x8) + (1 : Int32)).toNatClampNeg))) fun nM_19 => gi (((1763 : Int32) + x8) + (1 : Int32)) 1888 (gi ((1763 : Int32) + x8) 1888 (lt' (wrL nM_19 0 (vp_updL (nM_19 0) ((1763 : Int32) + x8).toNatClampNeg (nM_19 0 (((1763 : Int32) + x8) + (1 : Int32)).toNatClampNeg))) fun nM_22 => gi (((1779 : Int32) + x8) + (1 : Int32)) 1888 (gi ((1779 : Int32) + x8) 1888 (lt' (wrL nM_22 0 (vp_updL (nM_22 0) ((1779 : Int32) + x8).toNatClampNeg (nM_22 0 (((1779 : Int32) + x8) + (1 : Int32)).toNatClampNeg))) fun nM_25 => gi (((1795 : Int32) + x8) + (1 : Int32)) 1888 (gi ((1795 : Int32) + x8) 1888 (lt' (wrL nM_25 0 (vp_updL (nM_25 0) ((1795 : Int32) + x8).toNatClampNeg (nM_25 0 (((1795 : Int32) + x8) + (1 : Int32)).toNatClampNeg))) fun nM_28 => lt' (x8 + (1 : Int32)) fun x8_30 => (f_X9_giveReceipt_L85 x1 x2 x4 x7 imM n) x8_30 nM_28)))))))))))) = some nM' := hE
      refine lv_iload hx hb dX9_giveReceipt_85 (lv_at hl 5 rfl) ?_
      refine lv_bipush (v := 15) hx hb dX9_giveReceipt_87 (by decide) ?_
      refine lv_icmp_ge (tgt := 218) hx hb dX9_giveReceipt_89 (by decide) (fun c_13 => ?_) (fun c_13 => ?_)
      · replace hE := it_t hE c_13
        refine lv_aload_n hx hb dX9_giveReceipt_218 rfl (lv_at hl 0 rfl) ?_
        refine va_get (D := D) (ci := 9) (v := .ref (aM 1)) (C := RX9) (T := TX9) (N := 13) hx hb hts iX9 hown hK hP 0 rfl rfl 0 (by decide) f7 (fun _ h9 => h9) rfl dX9_giveReceipt_219 ?_
        refine lv_sipush (v := 1885) hx hb dX9_giveReceipt_222 (by decide) ?_
        refine lv_dup2_11 hx hb dX9_giveReceipt_225 rfl rfl ?_
        refine va_lald hx hb hK hP 1 1 rfl rfl (show ¬ ((1885 : Int32) < 0 ∨ 1888 ≤ (1885 : Int32).toNatClampNeg) by decide) dX9_giveReceipt_226 ?_
        refine lv_lconst (v := 1) hx hb dX9_giveReceipt_227 (by decide) ?_
        refine lv_lsub hx hb dX9_giveReceipt_228 ?_
        obtain ⟨nM_14, e_nM_14, hE⟩ := lt_el hE
        refine s_la (ws1 := (W_M cy aM imM nM_14)) hx hb hK hP hD hS 1 rfl (show ¬ ((1885 : Int32) < 0 ∨ 1888 ≤ (1885 : Int32).toNatClampNeg) by decide) (by rw [e_nM_14]; rfl) dX9_giveReceipt_229 (fun H locs hP hD hS => ?_)
        exact h230 x1 x2 x4 x7 nM_14 _ _ _ hE hP hD hS (lv_sub hl [0, 1, 2, 3, 4] rfl)
      · replace hE := it_f hE c_13
        refine lv_aload_n hx hb dX9_giveReceipt_92 rfl (lv_at hl 0 rfl) ?_
        refine va_get (D := D) (ci := 9) (v := .ref (aM 1)) (C := RX9) (T := TX9) (N := 13) hx hb hts iX9 hown hK hP 0 rfl rfl 0 (by decide) f7 (fun _ h9 => h9) rfl dX9_giveReceipt_93 ?_
        refine lv_sipush (v := 1731) hx hb dX9_giveReceipt_96 (by decide) ?_
        refine lv_iload hx hb dX9_giveReceipt_99 (lv_at hl 5 rfl) ?_
        refine lv_iadd hx hb dX9_giveReceipt_101 ?_
        refine lv_aload_n hx hb dX9_giveReceipt_102 rfl (lv_at hl 0 rfl) ?_
        refine va_get (D := D) (ci := 9) (v := .ref (aM 1)) (C := RX9) (T := TX9) (N := 13) hx hb hts iX9 hown hK hP 0 rfl rfl 0 (by decide) f7 (fun _ h9 => h9) rfl dX9_giveReceipt_103 ?_
        refine lv_sipush (v := 1731) hx hb dX9_giveReceipt_106 (by decide) ?_
        refine lv_iload hx hb dX9_giveReceipt_109 (lv_at hl 5 rfl) ?_
        refine lv_iadd hx hb dX9_giveReceipt_111 ?_
        refine lv_iconst (v := 1) hx hb dX9_giveReceipt_112 (by decide) ?_
        refine lv_iadd hx hb dX9_giveReceipt_113 ?_
        obtain ⟨g_15, hE⟩ := gi_el hE
        refine va_lald hx hb hK hP 1 1 rfl rfl g_15 dX9_giveReceipt_114 ?_
        obtain ⟨g_17, hE⟩ := gi_el hE
        obtain ⟨nM_16, e_nM_16, hE⟩ := lt_el hE
        refine s_la (ws1 := (W_M cy aM imM nM_16)) hx hb hK hP hD hS 1 rfl g_17 (by rw [e_nM_16]; rfl) dX9_giveReceipt_115 (fun H locs hP hD hS => ?_)
        refine lv_aload_n hx hb dX9_giveReceipt_116 rfl (lv_at hl 0 rfl) ?_
        refine va_get (D := D) (ci := 9) (v := .ref (aM 1)) (C := RX9) (T := TX9) (N := 13) hx hb hts iX9 hown hK hP 0 rfl rfl 0 (by decide) f7 (fun _ h9 => h9) rfl dX9_giveReceipt_117 ?_
        refine lv_sipush (v := 1747) hx hb dX9_giveReceipt_120 (by decide) ?_
        refine lv_iload hx hb dX9_giveReceipt_123 (lv_at hl 5 rfl) ?_
        refine lv_iadd hx hb dX9_giveReceipt_125 ?_
        refine lv_aload_n hx hb dX9_giveReceipt_126 rfl (lv_at hl 0 rfl) ?_
        refine va_get (D := D) (ci := 9) (v := .ref (aM 1)) (C := RX9) (T := TX9) (N := 13) hx hb hts iX9 hown hK hP 0 rfl rfl 0 (by decide) f7 (fun _ h9 => h9) rfl dX9_giveReceipt_127 ?_
        refine lv_sipush (v := 1747) hx hb dX9_giveReceipt_130 (by decide) ?_
        refine lv_iload hx hb dX9_giveReceipt_133 (lv_at hl 5 rfl) ?_
        refine lv_iadd hx hb dX9_giveReceipt_135 ?_
        refine lv_iconst (v := 1) hx hb dX9_giveReceipt_136 (by decide) ?_
        refine lv_iadd hx hb dX9_giveReceipt_137 ?_
        obtain ⟨g_18, hE⟩ := gi_el hE
        refine va_lald hx hb hK hP 1 1 rfl rfl g_18 dX9_giveReceipt_138 ?_
        obtain ⟨g_20, hE⟩ := gi_el hE
        obtain ⟨nM_19, e_nM_19, hE⟩ := lt_el hE
        refine s_la (ws1 := (W_M cy aM imM nM_19)) hx hb hK hP hD hS 1 rfl g_20 (by rw [e_nM_19]; rfl) dX9_giveReceipt_139 (fun H locs hP hD hS => ?_)
        refine lv_aload_n hx hb dX9_giveReceipt_140 rfl (lv_at hl 0 rfl) ?_
        refine va_get (D := D) (ci := 9) (v := .ref (aM 1)) (C := RX9) (T := TX9) (N := 13) hx hb hts iX9 hown hK hP 0 rfl rfl 0 (by decide) f7 (fun _ h9 => h9) rfl dX9_giveReceipt_141 ?_
        refine lv_sipush (v := 1763) hx hb dX9_giveReceipt_144 (by decide) ?_
        refine lv_iload hx hb dX9_giveReceipt_147 (lv_at hl 5 rfl) ?_
        refine lv_iadd hx hb dX9_giveReceipt_149 ?_
        refine lv_aload_n hx hb dX9_giveReceipt_150 rfl (lv_at hl 0 rfl) ?_
        refine va_get (D := D) (ci := 9) (v := .ref (aM 1)) (C := RX9) (T := TX9) (N := 13) hx hb hts iX9 hown hK hP 0 rfl rfl 0 (by decide) f7 (fun _ h9 => h9) rfl dX9_giveReceipt_151 ?_
        refine lv_sipush (v := 1763) hx hb dX9_giveReceipt_154 (by decide) ?_
        refine lv_iload hx hb dX9_giveReceipt_157 (lv_at hl 5 rfl) ?_
        refine lv_iadd hx hb dX9_giveReceipt_159 ?_
        refine lv_iconst (v := 1) hx hb dX9_giveReceipt_160 (by decide) ?_
        refine lv_iadd hx hb dX9_giveReceipt_161 ?_
        obtain ⟨g_21, hE⟩ := gi_el hE
        refine va_lald hx hb hK hP 1 1 rfl rfl g_21 dX9_giveReceipt_162 ?_
        obtain ⟨g_23, hE⟩ := gi_el hE
        obtain ⟨nM_22, e_nM_22, hE⟩ := lt_el hE
        refine s_la (ws1 := (W_M cy aM imM nM_22)) hx hb hK hP hD hS 1 rfl g_23 (by rw [e_nM_22]; rfl) dX9_giveReceipt_163 (fun H locs hP hD hS => ?_)
        refine lv_aload_n hx hb dX9_giveReceipt_164 rfl (lv_at hl 0 rfl) ?_
        refine va_get (D := D) (ci := 9) (v := .ref (aM 1)) (C := RX9) (T := TX9) (N := 13) hx hb hts iX9 hown hK hP 0 rfl rfl 0 (by decide) f7 (fun _ h9 => h9) rfl dX9_giveReceipt_165 ?_
        refine lv_sipush (v := 1779) hx hb dX9_giveReceipt_168 (by decide) ?_
        refine lv_iload hx hb dX9_giveReceipt_171 (lv_at hl 5 rfl) ?_
        refine lv_iadd hx hb dX9_giveReceipt_173 ?_
        refine lv_aload_n hx hb dX9_giveReceipt_174 rfl (lv_at hl 0 rfl) ?_
        refine va_get (D := D) (ci := 9) (v := .ref (aM 1)) (C := RX9) (T := TX9) (N := 13) hx hb hts iX9 hown hK hP 0 rfl rfl 0 (by decide) f7 (fun _ h9 => h9) rfl dX9_giveReceipt_175 ?_
        refine lv_sipush (v := 1779) hx hb dX9_giveReceipt_178 (by decide) ?_
        refine lv_iload hx hb dX9_giveReceipt_181 (lv_at hl 5 rfl) ?_
        refine lv_iadd hx hb dX9_giveReceipt_183 ?_
        refine lv_iconst (v := 1) hx hb dX9_giveReceipt_184 (by decide) ?_
        refine lv_iadd hx hb dX9_giveReceipt_185 ?_
        obtain ⟨g_24, hE⟩ := gi_el hE
        refine va_lald hx hb hK hP 1 1 rfl rfl g_24 dX9_giveReceipt_186 ?_
        obtain ⟨g_26, hE⟩ := gi_el hE
        obtain ⟨nM_25, e_nM_25, hE⟩ := lt_el hE
        refine s_la (ws1 := (W_M cy aM imM nM_25)) hx hb hK hP hD hS 1 rfl g_26 (by rw [e_nM_25]; rfl) dX9_giveReceipt_187 (fun H locs hP hD hS => ?_)
        refine lv_aload_n hx hb dX9_giveReceipt_188 rfl (lv_at hl 0 rfl) ?_
        refine va_get (D := D) (ci := 9) (v := .ref (aM 1)) (C := RX9) (T := TX9) (N := 13) hx hb hts iX9 hown hK hP 0 rfl rfl 0 (by decide) f7 (fun _ h9 => h9) rfl dX9_giveReceipt_189 ?_
        refine lv_sipush (v := 1795) hx hb dX9_giveReceipt_192 (by decide) ?_
        refine lv_iload hx hb dX9_giveReceipt_195 (lv_at hl 5 rfl) ?_
        refine lv_iadd hx hb dX9_giveReceipt_197 ?_
        refine lv_aload_n hx hb dX9_giveReceipt_198 rfl (lv_at hl 0 rfl) ?_
        refine va_get (D := D) (ci := 9) (v := .ref (aM 1)) (C := RX9) (T := TX9) (N := 13) hx hb hts iX9 hown hK hP 0 rfl rfl 0 (by decide) f7 (fun _ h9 => h9) rfl dX9_giveReceipt_199 ?_
        refine lv_sipush (v := 1795) hx hb dX9_giveReceipt_202 (by decide) ?_
        refine lv_iload hx hb dX9_giveReceipt_205 (lv_at hl 5 rfl) ?_
        refine lv_iadd hx hb dX9_giveReceipt_207 ?_
        refine lv_iconst (v := 1) hx hb dX9_giveReceipt_208 (by decide) ?_
        refine lv_iadd hx hb dX9_giveReceipt_209 ?_
        obtain ⟨g_27, hE⟩ := gi_el hE
        refine va_lald hx hb hK hP 1 1 rfl rfl g_27 dX9_giveReceipt_210 ?_
        obtain ⟨g_29, hE⟩ := gi_el hE
        obtain ⟨nM_28, e_nM_28, hE⟩ := lt_el hE
        refine s_la (ws1 := (W_M cy aM imM nM_28)) hx hb hK hP hD hS 1 rfl g_29 (by rw [e_nM_28]; rfl) dX9_giveReceipt_211 (fun H locs hP hD hS => ?_)
        obtain ⟨x8_30, e_x8_30, hE⟩ := lt_el hE
        refine lv_iinc (v := x8_30) (lv' := [(8, .int x8_30), (0, .ref (aM 0)), (1, .int x1), (2, .long x2), (4, .long x4), (7, .int x7)]) hx hb dX9_giveReceipt_212 hl (k := 5) rfl (by rw [e_x8_30]; rfl) (by decide) rfl (fun ls hl => ?_)
        refine lv_goto (tgt := 85) hx hb dX9_giveReceipt_215 (by decide) ?_
        exact ih x8_30 nM_28 _ _ _ hE hP hD hS (lv_sub hl [1, 2, 3, 4, 5, 0] rfl)
  have h38 : ∀ (x1 : Int32) (x2 : Int64) (x4 : Int64) (t0 : Int32) (nM : MemL), ∀  (H : Heap) (locs : List Loc) (ls : Array Slot), f_X9_giveReceipt_b38 x1 x2 x4 t0 imM nM = some nM' → va_P D vwCl (W_M cy aM imM nM) H → va_D A (W_M cy aM imM nM) → va_S A s.heap H locs → lv_has ls 9 [(0, .ref (aM 0)), (1, .int x1), (2, .long x2), (4, .long x4)] → W p l e rm_X9_giveReceipt s m args below meth c H locs 0 0 (MQ below (QV D cy (W_M cy aM imM nM') A) args s 0 0 A) (F0 m 38 ls [.int t0]) := by
    intro x1 x2 x4 t0 nM H locs ls hE hP hD hS hl
    replace hE : (lt' (((t0 <<< ((5 : Int32) &&& 31)) ||| ((t0.toUInt32 >>> ((27 : Int32).toUInt32 &&& Int32.toUInt32 31)).toInt32)) ^^^ (((x1 * (65537 : Int32)) + ((x2.toInt32) * (31 : Int32))) + (x4.toInt32))) fun x7_31 => (if (lg_cmp (nM 0 (1885 : Int32).toNatClampNeg) (16 : Int64)) = 0 then f_X9_giveReceipt_L85 x1 x2 x4 x7_31 imM fuel (0 : Int32) nM else f_X9_giveReceipt_b230 x1 x2 x4 x7_31 imM nM)) = some nM' := hE
    refine lv_istore (lv' := [(6, .int t0), (0, .ref (aM 0)), (1, .int x1), (2, .long x2), (4, .long x4)]) hx hb dX9_giveReceipt_38 hl (by decide) rfl (fun ls hl => ?_)
    refine lv_iload hx hb dX9_giveReceipt_40 (lv_at hl 0 rfl) ?_
    refine lv_iconst (v := 5) hx hb dX9_giveReceipt_42 (by decide) ?_
    refine lv_ishl hx hb dX9_giveReceipt_43 ?_
    refine lv_iload hx hb dX9_giveReceipt_44 (lv_at hl 0 rfl) ?_
    refine lv_bipush (v := 27) hx hb dX9_giveReceipt_46 (by decide) ?_
    refine lv_iushr hx hb dX9_giveReceipt_48 rfl ?_
    refine lv_ior hx hb dX9_giveReceipt_49 ?_
    refine lv_iload_n hx hb dX9_giveReceipt_50 rfl (lv_at hl 2 rfl) ?_
    refine lv_ldc hx hb hown k139 dX9_giveReceipt_51 ?_
    refine lv_imul hx hb dX9_giveReceipt_53 ?_
    refine lv_lload_n hx hb dX9_giveReceipt_54 rfl (lv_at hl 3 rfl) ?_
    refine lv_l2i hx hb dX9_giveReceipt_55 rfl ?_
    refine lv_bipush (v := 31) hx hb dX9_giveReceipt_56 (by decide) ?_
    refine lv_imul hx hb dX9_giveReceipt_58 ?_
    refine lv_iadd hx hb dX9_giveReceipt_59 ?_
    refine lv_lload hx hb dX9_giveReceipt_60 (lv_at hl 4 rfl) ?_
    refine lv_l2i hx hb dX9_giveReceipt_62 rfl ?_
    refine lv_iadd hx hb dX9_giveReceipt_63 ?_
    refine lv_ixor hx hb dX9_giveReceipt_64 ?_
    obtain ⟨x7_31, e_x7_31, hE⟩ := lt_el hE
    refine s_nm e_x7_31 ?_
    refine lv_istore (lv' := [(7, .int x7_31), (6, .int t0), (0, .ref (aM 0)), (1, .int x1), (2, .long x2), (4, .long x4)]) hx hb dX9_giveReceipt_65 hl (by decide) rfl (fun ls hl => ?_)
    refine lv_aload_n hx hb dX9_giveReceipt_67 rfl (lv_at hl 2 rfl) ?_
    refine va_get (D := D) (ci := 9) (v := .ref (aM 1)) (C := RX9) (T := TX9) (N := 13) hx hb hts iX9 hown hK hP 0 rfl rfl 0 (by decide) f7 (fun _ h9 => h9) rfl dX9_giveReceipt_68 ?_
    refine lv_sipush (v := 1885) hx hb dX9_giveReceipt_71 (by decide) ?_
    refine va_lald hx hb hK hP 1 1 rfl rfl (show ¬ ((1885 : Int32) < 0 ∨ 1888 ≤ (1885 : Int32).toNatClampNeg) by decide) dX9_giveReceipt_74 ?_
    refine lv_ldc2 hx hb hown k140 dX9_giveReceipt_75 ?_
    refine W.lcmp hx hb dX9_giveReceipt_78 ?_
    refine lv_if_ne (tgt := 230) hx hb dX9_giveReceipt_79 (by decide) (fun c_32 => ?_) (fun c_32 => ?_)
    · replace hE := it_f hE c_32
      exact h230 x1 x2 x4 x7_31 nM _ _ _ hE hP hD hS (lv_sub hl [2, 3, 4, 5, 0] rfl)
    · replace hE := it_t hE c_32
      refine lv_iconst (v := 0) hx hb dX9_giveReceipt_82 (by decide) ?_
      refine lv_istore (lv' := [(8, .int (0 : Int32)), (7, .int x7_31), (6, .int t0), (0, .ref (aM 0)), (1, .int x1), (2, .long x2), (4, .long x4)]) hx hb dX9_giveReceipt_83 hl (by decide) rfl (fun ls hl => ?_)
      exact h85 x1 x2 x4 x7_31 fuel (0 : Int32) nM _ _ _ hE hP hD hS (lv_sub hl [3, 4, 5, 6, 1, 0] rfl)
  unfold f_X9_giveReceipt at hE
  refine lv_aload_n hx hb dX9_giveReceipt_0 rfl (lv_at hl 0 rfl) ?_
  refine va_get (D := D) (ci := 9) (v := .ref (aM 1)) (C := RX9) (T := TX9) (N := 13) hx hb hts iX9 hown hK hP 0 rfl rfl 0 (by decide) f7 (fun _ h9 => h9) rfl dX9_giveReceipt_1 ?_
  refine lv_sipush (v := 1885) hx hb dX9_giveReceipt_4 (by decide) ?_
  refine va_lald hx hb hK hP 1 1 rfl rfl (show ¬ ((1885 : Int32) < 0 ∨ 1888 ≤ (1885 : Int32).toNatClampNeg) by decide) dX9_giveReceipt_7 ?_
  refine lv_lconst (v := 0) hx hb dX9_giveReceipt_8 (by decide) ?_
  refine W.lcmp hx hb dX9_giveReceipt_9 ?_
  refine lv_if_ne (tgt := 17) hx hb dX9_giveReceipt_10 (by decide) (fun c_33 => ?_) (fun c_33 => ?_)
  · replace hE := it_f hE c_33
    refine lv_aload_n hx hb dX9_giveReceipt_17 rfl (lv_at hl 0 rfl) ?_
    refine va_get (D := D) (ci := 9) (v := .ref (aM 1)) (C := RX9) (T := TX9) (N := 13) hx hb hts iX9 hown hK hP 0 rfl rfl 0 (by decide) f7 (fun _ h9 => h9) rfl dX9_giveReceipt_18 ?_
    refine lv_sipush (v := 1795) hx hb dX9_giveReceipt_21 (by decide) ?_
    refine lv_aload_n hx hb dX9_giveReceipt_24 rfl (lv_at hl 0 rfl) ?_
    refine va_get (D := D) (ci := 9) (v := .ref (aM 1)) (C := RX9) (T := TX9) (N := 13) hx hb hts iX9 hown hK hP 0 rfl rfl 0 (by decide) f7 (fun _ h9 => h9) rfl dX9_giveReceipt_25 ?_
    refine lv_sipush (v := 1885) hx hb dX9_giveReceipt_28 (by decide) ?_
    refine va_lald hx hb hK hP 1 1 rfl rfl (show ¬ ((1885 : Int32) < 0 ∨ 1888 ≤ (1885 : Int32).toNatClampNeg) by decide) dX9_giveReceipt_31 ?_
    refine lv_l2i hx hb dX9_giveReceipt_32 rfl ?_
    refine lv_iadd hx hb dX9_giveReceipt_33 ?_
    refine lv_iconst (v := 1) hx hb dX9_giveReceipt_34 (by decide) ?_
    refine lv_isub hx hb dX9_giveReceipt_35 ?_
    obtain ⟨g_34, hE⟩ := gi_el hE
    refine va_lald hx hb hK hP 1 1 rfl rfl g_34 dX9_giveReceipt_36 ?_
    refine lv_l2i hx hb dX9_giveReceipt_37 rfl ?_
    exact h38 x1 x2 x4 ((inM 0 (((1795 : Int32) + ((inM 0 (1885 : Int32).toNatClampNeg).toInt32)) - (1 : Int32)).toNatClampNeg).toInt32) inM _ _ _ hE hP hD hS (lv_sub hl [0, 1, 2, 3] rfl)
  · replace hE := it_t hE c_33
    refine lv_iconst (v := 0) hx hb dX9_giveReceipt_13 (by decide) ?_
    refine lv_goto (tgt := 38) hx hb dX9_giveReceipt_14 (by decide) ?_
    exact h38 x1 x2 x4 (0 : Int32) inM _ _ _ hE hP hD hS (lv_sub hl [0, 1, 2, 3] rfl)
abbrev rm_X9_serve : Room := { frames := 3, cells := 0, slots := 0, locals := 71 }
set_option maxHeartbeats 40000000 in
set_option maxRecDepth 100000 in
theorem c_X9_serve (l : Launch) (D : va_G) (cy : Nat → Nat) (aM : Nat → Nat) (x1 : Int32) (imM : Mem) (inM : MemL) (nM' : MemL) (hE : f_X9_serve x1 imM inM = some nM') : CV l yX9_serve wsX9_serve rm_X9_serve D cy [.ref (aM 0), .int x1] (W_M cy aM imM inM) 0 0 (W_M cy aM imM nM') := by
  refine CQ_of (cc := cX9_serve) (maxL := 12) (ret := none) (by decide) rfl (Nat.le_of_ble_eq_true rfl) (fun p e s m args below meth c A ls hx hb hr hml hlocks hnm hown hts hA hK hN hP hD hS hl => ?_)
  have hown : s.vm.findClass RX9 = some m.cls := hown
  have hl : lv_has ls 12 [(0, .ref (aM 0)), (1, .int x1)] := hl
  have hC : CallFix p m c cX9_serve 12 s args wsX9_serve RX9 := ⟨hx, hb, hml, hown, hts⟩
  have f7 : (Cond.fieldLink RX9 7 "IcePlantModel" "w" "[J").before args s = true := hts _ (mC qf_X9_7)
  have iX9 : ∀ w ∈ wsX90, w ∈ wsX9_serve := fun w h => mC (iA_X9 w h)
  have h250 : ∀ (x1 : Int32) (x3 : Int64) (x5 : Int64) (nM : MemL), ∀  (H : Heap) (locs : List Loc) (ls : Array Slot), f_X9_serve_b250 x1 x3 x5 imM nM = some nM' → va_P D vwCl (W_M cy aM imM nM) H → va_D A (W_M cy aM imM nM) → va_S A s.heap H locs → lv_has ls 12 [(0, .ref (aM 0)), (1, .int x1), (3, .long x3), (5, .long x5)] → W p l e rm_X9_serve s m args below meth c H locs 0 0 (MQ below (QV D cy (W_M cy aM imM nM') A) args s 0 0 A) (F0 m 250 ls []) := by
    intro x1 x3 x5 nM H locs ls hE hP hD hS hl
    replace hE : ((if (lg_cmp x3 (0 : Int64)) ≤ 0 then some nM else bd1 (f_X9_giveReceipt x1 x3 x5 imM nM) fun nM_2 => some nM_2)) = some nM' := hE
    refine lv_lload_n hx hb dX9_serve_250 rfl (lv_at hl 2 rfl) ?_
    refine lv_lconst (v := 0) hx hb dX9_serve_251 (by decide) ?_
    refine W.lcmp hx hb dX9_serve_252 ?_
    refine lv_if_le (tgt := 264) hx hb dX9_serve_253 (by decide) (fun c_1 => ?_) (fun c_1 => ?_)
    · replace hE := it_t hE c_1
      have hE := Option.some.inj hE
      exact ev hx hb hr hlocks hK hP hD hS (by rw [hE]) dX9_serve_264
    · replace hE := it_f hE c_1
      refine lv_aload_n hx hb dX9_serve_256 rfl (lv_at hl 0 rfl) ?_
      refine lv_iload_n hx hb dX9_serve_257 rfl (lv_at hl 1 rfl) ?_
      refine lv_lload_n hx hb dX9_serve_258 rfl (lv_at hl 2 rfl) ?_
      refine lv_lload hx hb dX9_serve_259 (lv_at hl 3 rfl) ?_
      obtain ⟨nM_2, hc_3, hE⟩ := bd1_el hE
      refine kv (X := []) (Y := []) (ws1 := (W_M cy aM imM nM_2)) (rV (X := []) (Y := []) (As := [.int x1, .long x3, .long x5]) (rest := []) hC (c_X9_giveReceipt l D cy aM x1 x3 x5 imM nM nM_2 hc_3) (cwV 3 hts gX9_serve_X9_giveReceipt rfl rfl rfl cd_X9_giveReceipt ⟨Nat.le_of_ble_eq_true rfl, Nat.le_of_ble_eq_true rfl⟩) hK hN hP hD hS hA rfl 0 9 rfl rfl rfl hl.1 rfl (lv_room (Nat.le_of_ble_eq_true rfl)) dX9_serve_261 ⟨Nat.le_of_ble_eq_true rfl, Nat.le_of_ble_eq_true rfl⟩) hP hD hS hA rfl rfl rfl (fun H locs hP hD hS => ?_)
      have hE := Option.some.inj hE
      exact ev hx hb hr hlocks hK hP hD hS (by rw [hE]) dX9_serve_264
  have h229 : ∀ (x1 : Int32) (x3 : Int64) (x5 : Int64) (nM : MemL), ∀  (H : Heap) (locs : List Loc) (ls : Array Slot), f_X9_serve_b229 x1 x3 x5 imM nM = some nM' → va_P D vwCl (W_M cy aM imM nM) H → va_D A (W_M cy aM imM nM) → va_S A s.heap H locs → lv_has ls 12 [(0, .ref (aM 0)), (1, .int x1), (3, .long x3), (5, .long x5)] → W p l e rm_X9_serve s m args below meth c H locs 0 0 (MQ below (QV D cy (W_M cy aM imM nM') A) args s 0 0 A) (F0 m 229 ls []) := by
    intro x1 x3 x5 nM H locs ls hE hP hD hS hl
    replace hE : (bd1 (f_X9_remaining x1 imM nM) fun r_4 => (if (lg_cmp r_4 (0 : Int64)) = 0 then gi ((1531 : Int32) + x1) 1888 (lt' (wrL nM 0 (vp_updL (nM 0) ((1531 : Int32) + x1).toNatClampNeg (1 : Int64))) fun nM_7 => f_X9_serve_b250 x1 x3 x5 imM nM_7) else f_X9_serve_b250 x1 x3 x5 imM nM)) = some nM' := hE
    refine lv_aload_n hx hb dX9_serve_229 rfl (lv_at hl 0 rfl) ?_
    refine lv_iload_n hx hb dX9_serve_230 rfl (lv_at hl 1 rfl) ?_
    obtain ⟨r_4, hc_5, hE⟩ := bd1_el hE
    refine kl (X := []) (Y := []) (ws1 := (W_M cy aM imM nM)) (rV (X := []) (Y := []) (As := [.int x1]) (rest := []) hC (c_X9_remaining l D cy aM x1 imM nM r_4 hc_5) (cwV 1 hts gX9_serve_X9_remaining rfl rfl rfl cd_X9_remaining ⟨Nat.le_of_ble_eq_true rfl, Nat.le_of_ble_eq_true rfl⟩) hK hN hP hD hS hA rfl 0 9 rfl rfl rfl hl.1 rfl (lv_room (Nat.le_of_ble_eq_true rfl)) dX9_serve_231 ⟨Nat.le_of_ble_eq_true rfl, Nat.le_of_ble_eq_true rfl⟩) hP hD hS hA rfl rfl rfl (fun H locs hP hD hS => ?_)
    refine lv_lconst (v := 0) hx hb dX9_serve_234 (by decide) ?_
    refine W.lcmp hx hb dX9_serve_235 ?_
    refine lv_if_ne (tgt := 250) hx hb dX9_serve_236 (by decide) (fun c_6 => ?_) (fun c_6 => ?_)
    · replace hE := it_f hE c_6
      exact h250 x1 x3 x5 nM _ _ _ hE hP hD hS (lv_sub hl [0, 1, 2, 3] rfl)
    · replace hE := it_t hE c_6
      refine lv_aload_n hx hb dX9_serve_239 rfl (lv_at hl 0 rfl) ?_
      refine va_get (D := D) (ci := 9) (v := .ref (aM 1)) (C := RX9) (T := TX9) (N := 13) hx hb hts iX9 hown hK hP 0 rfl rfl 0 (by decide) f7 (fun _ h9 => h9) rfl dX9_serve_240 ?_
      refine lv_sipush (v := 1531) hx hb dX9_serve_243 (by decide) ?_
      refine lv_iload_n hx hb dX9_serve_246 rfl (lv_at hl 1 rfl) ?_
      refine lv_iadd hx hb dX9_serve_247 ?_
      refine lv_lconst (v := 1) hx hb dX9_serve_248 (by decide) ?_
      obtain ⟨g_8, hE⟩ := gi_el hE
      obtain ⟨nM_7, e_nM_7, hE⟩ := lt_el hE
      refine s_la (ws1 := (W_M cy aM imM nM_7)) hx hb hK hP hD hS 1 rfl g_8 (by rw [e_nM_7]; rfl) dX9_serve_249 (fun H locs hP hD hS => ?_)
      exact h250 x1 x3 x5 nM_7 _ _ _ hE hP hD hS (lv_sub hl [0, 1, 2, 3] rfl)
  have h72 : ∀ (x1 : Int32) (x2 : Int32), ∀ (n : Nat), ∀ (x3 : Int64) (x5 : Int64) (x7 : Int32) (nM : MemL) (H : Heap) (locs : List Loc) (ls : Array Slot), f_X9_serve_L72 x1 x2 imM n x3 x5 x7 nM = some nM' → va_P D vwCl (W_M cy aM imM nM) H → va_D A (W_M cy aM imM nM) → va_S A s.heap H locs → lv_has ls 12 [(0, .ref (aM 0)), (1, .int x1), (2, .int x2), (3, .long x3), (5, .long x5), (7, .int x7)] → W p l e rm_X9_serve s m args below meth c H locs 0 0 (MQ below (QV D cy (W_M cy aM imM nM') A) args s 0 0 A) (F0 m 72 ls []) := by
    intro x1 x2 n
    induction n with
    | zero => intro x3 x5 x7 nM H locs ls hE; exact absurd hE (fun h9 => nomatch h9)
    | succ n ih =>
      intro x3 x5 x7 nM H locs ls hE hP hD hS hl
      replace hE : (bd1 (f_X9_remaining x1 imM nM) fun r_9 => (if (lg_cmp r_9 (0 : Int64)) ≤ 0 then f_X9_serve_b229 x1 x3 x5 imM nM else (if x7 = (-1 : Int32) then f_X9_serve_b229 x1 x3 x5 imM nM else gi ((207 : Int32) + x7) 1888 (lt' (nM 0 ((207 : Int32) + x7).toNatClampNeg) fun x8_14 => bd1 (f_X9_bandNow imM nM) fun r_15 => bd1 (f_X9_priceOf x2 x8_14 r_15 imM nM) fun r_17 => bd1 (f_X9_removeBlock (x7 / (30 : Int32)) (x7 - x7 / (30 : Int32) * (30 : Int32)) imM nM) fun nM_19 => gi ((931 : Int32) + x1) 1888 (gi ((931 : Int32) + x1) 1888 (lt' (wrL nM_19 0 (vp_updL (nM_19 0) ((931 : Int32) + x1).toNatClampNeg ((nM_19 0 ((931 : Int32) + x1).toNatClampNeg) + x8_14))) fun nM_22 => gi ((515 : Int32) + x2) 1888 (gi ((515 : Int32) + x2) 1888 (lt' (wrL nM_22 0 (vp_updL (nM_22 0) ((515 : Int32) + x2).toNatClampNeg ((nM_22 0 ((515 : Int32) + x2).toNatClampNeg) + r_17))) fun nM_25 => gi ((523 : Int32) + x2) 1888 (gi ((523 : Int32) + x2) 1888 (lt' (wrL nM_25 0 (vp_updL (nM_25 0) ((523 : Int32) + x2).toNatClampNeg ((nM_25 0 ((523 : Int32) + x2).toNatClampNeg) + x8_14))) fun nM_28 => lt' (wrL nM_28 0 (vp_updL (nM_28 0) (1877 : Int32).toNatClampNeg ((nM_28 0 (1877 : Int32).toNatClampNeg) + x8_14))) fun nM_30 => lt' (wrL nM_30 0 (vp_updL (nM_30 0) (1883 : Int32).toNatClampNeg ((nM_30 0 (1883 : Int32).toNatClampNeg) + r_17))) fun nM_31 => bd1 (f_X9_enter x2 x8_14 r_17 imM nM_31) fun nM_32 => lt' (x3 + x8_14) fun x3_34 => lt' (x5 + r_17) fun x5_35 => bd1 (f_X9_oldest imM nM_32) fun r_36 => (f_X9_serve_L72 x1 x2 imM n) x3_34 x5_35 r_36 nM_32)))))))))) = some nM' := hE
      refine lv_aload_n hx hb dX9_serve_72 rfl (lv_at hl 0 rfl) ?_
      refine lv_iload_n hx hb dX9_serve_73 rfl (lv_at hl 1 rfl) ?_
      obtain ⟨r_9, hc_10, hE⟩ := bd1_el hE
      refine kl (X := []) (Y := []) (ws1 := (W_M cy aM imM nM)) (rV (X := []) (Y := []) (As := [.int x1]) (rest := []) hC (c_X9_remaining l D cy aM x1 imM nM r_9 hc_10) (cwV 1 hts gX9_serve_X9_remaining rfl rfl rfl cd_X9_remaining ⟨Nat.le_of_ble_eq_true rfl, Nat.le_of_ble_eq_true rfl⟩) hK hN hP hD hS hA rfl 0 9 rfl rfl rfl hl.1 rfl (lv_room (Nat.le_of_ble_eq_true rfl)) dX9_serve_74 ⟨Nat.le_of_ble_eq_true rfl, Nat.le_of_ble_eq_true rfl⟩) hP hD hS hA rfl rfl rfl (fun H locs hP hD hS => ?_)
      refine lv_lconst (v := 0) hx hb dX9_serve_77 (by decide) ?_
      refine W.lcmp hx hb dX9_serve_78 ?_
      refine lv_if_le (tgt := 229) hx hb dX9_serve_79 (by decide) (fun c_11 => ?_) (fun c_11 => ?_)
      · replace hE := it_t hE c_11
        exact h229 x1 x3 x5 nM _ _ _ hE hP hD hS (lv_sub hl [0, 1, 3, 4] rfl)
      · replace hE := it_f hE c_11
        refine lv_iload hx hb dX9_serve_82 (lv_at hl 5 rfl) ?_
        refine lv_iconst (v := (-1)) hx hb dX9_serve_84 (by decide) ?_
        refine lv_icmp_eq (tgt := 229) hx hb dX9_serve_85 (by decide) (fun c_12 => ?_) (fun c_12 => ?_)
        · replace hE := it_t hE c_12
          exact h229 x1 x3 x5 nM _ _ _ hE hP hD hS (lv_sub hl [0, 1, 3, 4] rfl)
        · replace hE := it_f hE c_12
          refine lv_aload_n hx hb dX9_serve_88 rfl (lv_at hl 0 rfl) ?_
          refine va_get (D := D) (ci := 9) (v := .ref (aM 1)) (C := RX9) (T := TX9) (N := 13) hx hb hts iX9 hown hK hP 0 rfl rfl 0 (by decide) f7 (fun _ h9 => h9) rfl dX9_serve_89 ?_
          refine lv_sipush (v := 207) hx hb dX9_serve_92 (by decide) ?_
          refine lv_iload hx hb dX9_serve_95 (lv_at hl 5 rfl) ?_
          refine lv_iadd hx hb dX9_serve_97 ?_
          obtain ⟨g_13, hE⟩ := gi_el hE
          refine va_lald hx hb hK hP 1 1 rfl rfl g_13 dX9_serve_98 ?_
          obtain ⟨x8_14, e_x8_14, hE⟩ := lt_el hE
          refine s_nmL e_x8_14 ?_
          refine lv_lstore (lv' := [(8, .long x8_14), (0, .ref (aM 0)), (1, .int x1), (2, .int x2), (3, .long x3), (5, .long x5), (7, .int x7)]) hx hb dX9_serve_99 hl (by decide) rfl (fun ls hl => ?_)
          refine lv_aload_n hx hb dX9_serve_101 rfl (lv_at hl 1 rfl) ?_
          refine lv_iload_n hx hb dX9_serve_102 rfl (lv_at hl 3 rfl) ?_
          refine lv_lload hx hb dX9_serve_103 (lv_at hl 0 rfl) ?_
          refine lv_aload_n hx hb dX9_serve_105 rfl (lv_at hl 1 rfl) ?_
          obtain ⟨r_15, hc_16, hE⟩ := bd1_el hE
          refine ki (X := []) (Y := []) (ws1 := (W_M cy aM imM nM)) (rV (X := []) (Y := []) (As := []) (rest := [.long x8_14, .int x2, .ref (aM 0)]) hC (c_X9_bandNow l D cy aM imM nM r_15 hc_16) (cwV 0 hts gX9_serve_X9_bandNow rfl rfl rfl cd_X9_bandNow ⟨Nat.le_of_ble_eq_true rfl, Nat.le_of_ble_eq_true rfl⟩) hK hN hP hD hS hA rfl 0 9 rfl rfl rfl hl.1 rfl (lv_room (Nat.le_of_ble_eq_true rfl)) dX9_serve_106 ⟨Nat.le_of_ble_eq_true rfl, Nat.le_of_ble_eq_true rfl⟩) hP hD hS hA rfl rfl rfl (fun H locs hP hD hS => ?_)
          obtain ⟨r_17, hc_18, hE⟩ := bd1_el hE
          refine kl (X := []) (Y := []) (ws1 := (W_M cy aM imM nM)) (rV (X := []) (Y := []) (As := [.int x2, .long x8_14, .int r_15]) (rest := []) hC (c_X9_priceOf l D cy aM x2 x8_14 r_15 imM nM r_17 hc_18) (cwV 3 hts gX9_serve_X9_priceOf rfl rfl rfl cd_X9_priceOf ⟨Nat.le_of_ble_eq_true rfl, Nat.le_of_ble_eq_true rfl⟩) hK hN hP hD hS hA rfl 0 9 rfl rfl rfl hl.1 rfl (lv_room (Nat.le_of_ble_eq_true rfl)) dX9_serve_109 ⟨Nat.le_of_ble_eq_true rfl, Nat.le_of_ble_eq_true rfl⟩) hP hD hS hA rfl rfl rfl (fun H locs hP hD hS => ?_)
          refine lv_lstore (lv' := [(10, .long r_17), (8, .long x8_14), (0, .ref (aM 0)), (1, .int x1), (2, .int x2), (3, .long x3), (5, .long x5), (7, .int x7)]) hx hb dX9_serve_112 hl (by decide) rfl (fun ls hl => ?_)
          refine lv_aload_n hx hb dX9_serve_114 rfl (lv_at hl 2 rfl) ?_
          refine lv_iload hx hb dX9_serve_115 (lv_at hl 7 rfl) ?_
          refine lv_bipush (v := 30) hx hb dX9_serve_117 (by decide) ?_
          refine lv_idiv hx hb dX9_serve_119 (by decide) ?_
          refine lv_iload hx hb dX9_serve_120 (lv_at hl 7 rfl) ?_
          refine lv_bipush (v := 30) hx hb dX9_serve_122 (by decide) ?_
          refine lv_irem hx hb dX9_serve_124 (by decide) ?_
          obtain ⟨nM_19, hc_20, hE⟩ := bd1_el hE
          refine kv (X := []) (Y := []) (ws1 := (W_M cy aM imM nM_19)) (rV (X := []) (Y := []) (As := [.int (x7 / (30 : Int32)), .int (x7 - x7 / (30 : Int32) * (30 : Int32))]) (rest := []) hC (c_X9_removeBlock l D cy aM (x7 / (30 : Int32)) (x7 - x7 / (30 : Int32) * (30 : Int32)) imM nM nM_19 hc_20) (cwV 2 hts gX9_serve_X9_removeBlock rfl rfl rfl cd_X9_removeBlock ⟨Nat.le_of_ble_eq_true rfl, Nat.le_of_ble_eq_true rfl⟩) hK hN hP hD hS hA rfl 0 9 rfl rfl rfl hl.1 rfl (lv_room (Nat.le_of_ble_eq_true rfl)) dX9_serve_125 ⟨Nat.le_of_ble_eq_true rfl, Nat.le_of_ble_eq_true rfl⟩) hP hD hS hA rfl rfl rfl (fun H locs hP hD hS => ?_)
          refine lv_aload_n hx hb dX9_serve_128 rfl (lv_at hl 2 rfl) ?_
          refine va_get (D := D) (ci := 9) (v := .ref (aM 1)) (C := RX9) (T := TX9) (N := 13) hx hb hts iX9 hown hK hP 0 rfl rfl 0 (by decide) f7 (fun _ h9 => h9) rfl dX9_serve_129 ?_
          refine lv_sipush (v := 931) hx hb dX9_serve_132 (by decide) ?_
          refine lv_iload_n hx hb dX9_serve_135 rfl (lv_at hl 3 rfl) ?_
          refine lv_iadd hx hb dX9_serve_136 ?_
          refine lv_dup2_11 hx hb dX9_serve_137 rfl rfl ?_
          obtain ⟨g_21, hE⟩ := gi_el hE
          refine va_lald hx hb hK hP 1 1 rfl rfl g_21 dX9_serve_138 ?_
          refine lv_lload hx hb dX9_serve_139 (lv_at hl 1 rfl) ?_
          refine lv_ladd hx hb dX9_serve_141 ?_
          obtain ⟨g_23, hE⟩ := gi_el hE
          obtain ⟨nM_22, e_nM_22, hE⟩ := lt_el hE
          refine s_la (ws1 := (W_M cy aM imM nM_22)) hx hb hK hP hD hS 1 rfl g_23 (by rw [e_nM_22]; rfl) dX9_serve_142 (fun H locs hP hD hS => ?_)
          refine lv_aload_n hx hb dX9_serve_143 rfl (lv_at hl 2 rfl) ?_
          refine va_get (D := D) (ci := 9) (v := .ref (aM 1)) (C := RX9) (T := TX9) (N := 13) hx hb hts iX9 hown hK hP 0 rfl rfl 0 (by decide) f7 (fun _ h9 => h9) rfl dX9_serve_144 ?_
          refine lv_sipush (v := 515) hx hb dX9_serve_147 (by decide) ?_
          refine lv_iload_n hx hb dX9_serve_150 rfl (lv_at hl 4 rfl) ?_
          refine lv_iadd hx hb dX9_serve_151 ?_
          refine lv_dup2_11 hx hb dX9_serve_152 rfl rfl ?_
          obtain ⟨g_24, hE⟩ := gi_el hE
          refine va_lald hx hb hK hP 1 1 rfl rfl g_24 dX9_serve_153 ?_
          refine lv_lload hx hb dX9_serve_154 (lv_at hl 0 rfl) ?_
          refine lv_ladd hx hb dX9_serve_156 ?_
          obtain ⟨g_26, hE⟩ := gi_el hE
          obtain ⟨nM_25, e_nM_25, hE⟩ := lt_el hE
          refine s_la (ws1 := (W_M cy aM imM nM_25)) hx hb hK hP hD hS 1 rfl g_26 (by rw [e_nM_25]; rfl) dX9_serve_157 (fun H locs hP hD hS => ?_)
          refine lv_aload_n hx hb dX9_serve_158 rfl (lv_at hl 2 rfl) ?_
          refine va_get (D := D) (ci := 9) (v := .ref (aM 1)) (C := RX9) (T := TX9) (N := 13) hx hb hts iX9 hown hK hP 0 rfl rfl 0 (by decide) f7 (fun _ h9 => h9) rfl dX9_serve_159 ?_
          refine lv_sipush (v := 523) hx hb dX9_serve_162 (by decide) ?_
          refine lv_iload_n hx hb dX9_serve_165 rfl (lv_at hl 4 rfl) ?_
          refine lv_iadd hx hb dX9_serve_166 ?_
          refine lv_dup2_11 hx hb dX9_serve_167 rfl rfl ?_
          obtain ⟨g_27, hE⟩ := gi_el hE
          refine va_lald hx hb hK hP 1 1 rfl rfl g_27 dX9_serve_168 ?_
          refine lv_lload hx hb dX9_serve_169 (lv_at hl 1 rfl) ?_
          refine lv_ladd hx hb dX9_serve_171 ?_
          obtain ⟨g_29, hE⟩ := gi_el hE
          obtain ⟨nM_28, e_nM_28, hE⟩ := lt_el hE
          refine s_la (ws1 := (W_M cy aM imM nM_28)) hx hb hK hP hD hS 1 rfl g_29 (by rw [e_nM_28]; rfl) dX9_serve_172 (fun H locs hP hD hS => ?_)
          refine lv_aload_n hx hb dX9_serve_173 rfl (lv_at hl 2 rfl) ?_
          refine va_get (D := D) (ci := 9) (v := .ref (aM 1)) (C := RX9) (T := TX9) (N := 13) hx hb hts iX9 hown hK hP 0 rfl rfl 0 (by decide) f7 (fun _ h9 => h9) rfl dX9_serve_174 ?_
          refine lv_sipush (v := 1877) hx hb dX9_serve_177 (by decide) ?_
          refine lv_dup2_11 hx hb dX9_serve_180 rfl rfl ?_
          refine va_lald hx hb hK hP 1 1 rfl rfl (show ¬ ((1877 : Int32) < 0 ∨ 1888 ≤ (1877 : Int32).toNatClampNeg) by decide) dX9_serve_181 ?_
          refine lv_lload hx hb dX9_serve_182 (lv_at hl 1 rfl) ?_
          refine lv_ladd hx hb dX9_serve_184 ?_
          obtain ⟨nM_30, e_nM_30, hE⟩ := lt_el hE
          refine s_la (ws1 := (W_M cy aM imM nM_30)) hx hb hK hP hD hS 1 rfl (show ¬ ((1877 : Int32) < 0 ∨ 1888 ≤ (1877 : Int32).toNatClampNeg) by decide) (by rw [e_nM_30]; rfl) dX9_serve_185 (fun H locs hP hD hS => ?_)
          refine lv_aload_n hx hb dX9_serve_186 rfl (lv_at hl 2 rfl) ?_
          refine va_get (D := D) (ci := 9) (v := .ref (aM 1)) (C := RX9) (T := TX9) (N := 13) hx hb hts iX9 hown hK hP 0 rfl rfl 0 (by decide) f7 (fun _ h9 => h9) rfl dX9_serve_187 ?_
          refine lv_sipush (v := 1883) hx hb dX9_serve_190 (by decide) ?_
          refine lv_dup2_11 hx hb dX9_serve_193 rfl rfl ?_
          refine va_lald hx hb hK hP 1 1 rfl rfl (show ¬ ((1883 : Int32) < 0 ∨ 1888 ≤ (1883 : Int32).toNatClampNeg) by decide) dX9_serve_194 ?_
          refine lv_lload hx hb dX9_serve_195 (lv_at hl 0 rfl) ?_
          refine lv_ladd hx hb dX9_serve_197 ?_
          obtain ⟨nM_31, e_nM_31, hE⟩ := lt_el hE
          refine s_la (ws1 := (W_M cy aM imM nM_31)) hx hb hK hP hD hS 1 rfl (show ¬ ((1883 : Int32) < 0 ∨ 1888 ≤ (1883 : Int32).toNatClampNeg) by decide) (by rw [e_nM_31]; rfl) dX9_serve_198 (fun H locs hP hD hS => ?_)
          refine lv_aload_n hx hb dX9_serve_199 rfl (lv_at hl 2 rfl) ?_
          refine lv_iload_n hx hb dX9_serve_200 rfl (lv_at hl 4 rfl) ?_
          refine lv_lload hx hb dX9_serve_201 (lv_at hl 1 rfl) ?_
          refine lv_lload hx hb dX9_serve_203 (lv_at hl 0 rfl) ?_
          obtain ⟨nM_32, hc_33, hE⟩ := bd1_el hE
          refine kv (X := []) (Y := []) (ws1 := (W_M cy aM imM nM_32)) (rV (X := []) (Y := []) (As := [.int x2, .long x8_14, .long r_17]) (rest := []) hC (c_X9_enter l D cy aM x2 x8_14 r_17 imM nM_31 nM_32 hc_33) (cwV 3 hts gX9_serve_X9_enter rfl rfl rfl cd_X9_enter ⟨Nat.le_of_ble_eq_true rfl, Nat.le_of_ble_eq_true rfl⟩) hK hN hP hD hS hA rfl 0 9 rfl rfl rfl hl.1 rfl (lv_room (Nat.le_of_ble_eq_true rfl)) dX9_serve_205 ⟨Nat.le_of_ble_eq_true rfl, Nat.le_of_ble_eq_true rfl⟩) hP hD hS hA rfl rfl rfl (fun H locs hP hD hS => ?_)
          refine lv_lload_n hx hb dX9_serve_208 rfl (lv_at hl 5 rfl) ?_
          refine lv_lload hx hb dX9_serve_209 (lv_at hl 1 rfl) ?_
          refine lv_ladd hx hb dX9_serve_211 ?_
          obtain ⟨x3_34, e_x3_34, hE⟩ := lt_el hE
          refine s_nmL e_x3_34 ?_
          refine lv_lstore_n (lv' := [(3, .long x3_34), (10, .long r_17), (8, .long x8_14), (0, .ref (aM 0)), (1, .int x1), (2, .int x2), (5, .long x5), (7, .int x7)]) hx hb dX9_serve_212 rfl hl (by decide) rfl (fun ls hl => ?_)
          refine lv_lload hx hb dX9_serve_213 (lv_at hl 6 rfl) ?_
          refine lv_lload hx hb dX9_serve_215 (lv_at hl 1 rfl) ?_
          refine lv_ladd hx hb dX9_serve_217 ?_
          obtain ⟨x5_35, e_x5_35, hE⟩ := lt_el hE
          refine s_nmL e_x5_35 ?_
          refine lv_lstore (lv' := [(5, .long x5_35), (3, .long x3_34), (10, .long r_17), (8, .long x8_14), (0, .ref (aM 0)), (1, .int x1), (2, .int x2), (7, .int x7)]) hx hb dX9_serve_218 hl (by decide) rfl (fun ls hl => ?_)
          refine lv_aload_n hx hb dX9_serve_220 rfl (lv_at hl 4 rfl) ?_
          obtain ⟨r_36, hc_37, hE⟩ := bd1_el hE
          refine ki (X := []) (Y := []) (ws1 := (W_M cy aM imM nM_32)) (rV (X := []) (Y := []) (As := []) (rest := []) hC (c_X9_oldest l D cy aM imM nM_32 r_36 hc_37) (cwV 0 hts gX9_serve_X9_oldest rfl rfl rfl cd_X9_oldest ⟨Nat.le_of_ble_eq_true rfl, Nat.le_of_ble_eq_true rfl⟩) hK hN hP hD hS hA rfl 0 9 rfl rfl rfl hl.1 rfl (lv_room (Nat.le_of_ble_eq_true rfl)) dX9_serve_221 ⟨Nat.le_of_ble_eq_true rfl, Nat.le_of_ble_eq_true rfl⟩) hP hD hS hA rfl rfl rfl (fun H locs hP hD hS => ?_)
          refine lv_istore (lv' := [(7, .int r_36), (5, .long x5_35), (3, .long x3_34), (10, .long r_17), (8, .long x8_14), (0, .ref (aM 0)), (1, .int x1), (2, .int x2)]) hx hb dX9_serve_224 hl (by decide) rfl (fun ls hl => ?_)
          refine lv_goto (tgt := 72) hx hb dX9_serve_226 (by decide) ?_
          exact ih x3_34 x5_35 r_36 nM_32 _ _ _ hE hP hD hS (lv_sub hl [5, 6, 7, 2, 1, 0] rfl)
  have h61 : ∀ (x1 : Int32) (x2 : Int32) (nM : MemL), ∀  (H : Heap) (locs : List Loc) (ls : Array Slot), f_X9_serve_b61 x1 x2 imM nM = some nM' → va_P D vwCl (W_M cy aM imM nM) H → va_D A (W_M cy aM imM nM) → va_S A s.heap H locs → lv_has ls 12 [(0, .ref (aM 0)), (1, .int x1), (2, .int x2)] → W p l e rm_X9_serve s m args below meth c H locs 0 0 (MQ below (QV D cy (W_M cy aM imM nM') A) args s 0 0 A) (F0 m 61 ls []) := by
    intro x1 x2 nM H locs ls hE hP hD hS hl
    replace hE : (bd1 (f_X9_oldest imM nM) fun r_38 => f_X9_serve_L72 x1 x2 imM fuel (0 : Int64) (0 : Int64) r_38 nM) = some nM' := hE
    refine lv_lconst (v := 0) hx hb dX9_serve_61 (by decide) ?_
    refine lv_lstore_n (lv' := [(3, .long (0 : Int64)), (0, .ref (aM 0)), (1, .int x1), (2, .int x2)]) hx hb dX9_serve_62 rfl hl (by decide) rfl (fun ls hl => ?_)
    refine lv_lconst (v := 0) hx hb dX9_serve_63 (by decide) ?_
    refine lv_lstore (lv' := [(5, .long (0 : Int64)), (3, .long (0 : Int64)), (0, .ref (aM 0)), (1, .int x1), (2, .int x2)]) hx hb dX9_serve_64 hl (by decide) rfl (fun ls hl => ?_)
    refine lv_aload_n hx hb dX9_serve_66 rfl (lv_at hl 2 rfl) ?_
    obtain ⟨r_38, hc_39, hE⟩ := bd1_el hE
    refine ki (X := []) (Y := []) (ws1 := (W_M cy aM imM nM)) (rV (X := []) (Y := []) (As := []) (rest := []) hC (c_X9_oldest l D cy aM imM nM r_38 hc_39) (cwV 0 hts gX9_serve_X9_oldest rfl rfl rfl cd_X9_oldest ⟨Nat.le_of_ble_eq_true rfl, Nat.le_of_ble_eq_true rfl⟩) hK hN hP hD hS hA rfl 0 9 rfl rfl rfl hl.1 rfl (lv_room (Nat.le_of_ble_eq_true rfl)) dX9_serve_67 ⟨Nat.le_of_ble_eq_true rfl, Nat.le_of_ble_eq_true rfl⟩) hP hD hS hA rfl rfl rfl (fun H locs hP hD hS => ?_)
    refine lv_istore (lv' := [(7, .int r_38), (5, .long (0 : Int64)), (3, .long (0 : Int64)), (0, .ref (aM 0)), (1, .int x1), (2, .int x2)]) hx hb dX9_serve_70 hl (by decide) rfl (fun ls hl => ?_)
    exact h72 x1 x2 fuel (0 : Int64) (0 : Int64) r_38 nM _ _ _ hE hP hD hS (lv_sub hl [3, 4, 5, 2, 1, 0] rfl)
  unfold f_X9_serve at hE
  refine lv_aload_n hx hb dX9_serve_0 rfl (lv_at hl 0 rfl) ?_
  refine va_get (D := D) (ci := 9) (v := .ref (aM 1)) (C := RX9) (T := TX9) (N := 13) hx hb hts iX9 hown hK hP 0 rfl rfl 0 (by decide) f7 (fun _ h9 => h9) rfl dX9_serve_1 ?_
  refine lv_sipush (v := 531) hx hb dX9_serve_4 (by decide) ?_
  refine lv_iload_n hx hb dX9_serve_7 rfl (lv_at hl 1 rfl) ?_
  refine lv_iadd hx hb dX9_serve_8 ?_
  obtain ⟨g_40, hE⟩ := gi_el hE
  refine va_lald hx hb hK hP 1 1 rfl rfl g_40 dX9_serve_9 ?_
  refine lv_l2i hx hb dX9_serve_10 rfl ?_
  obtain ⟨x2_41, e_x2_41, hE⟩ := lt_el hE
  refine s_nm e_x2_41 ?_
  refine lv_istore_n (lv' := [(2, .int x2_41), (0, .ref (aM 0)), (1, .int x1)]) hx hb dX9_serve_11 rfl hl (by decide) rfl (fun ls hl => ?_)
  refine lv_aload_n hx hb dX9_serve_12 rfl (lv_at hl 1 rfl) ?_
  refine va_get (D := D) (ci := 9) (v := .ref (aM 1)) (C := RX9) (T := TX9) (N := 13) hx hb hts iX9 hown hK hP 0 rfl rfl 0 (by decide) f7 (fun _ h9 => h9) rfl dX9_serve_13 ?_
  refine lv_sipush (v := 515) hx hb dX9_serve_16 (by decide) ?_
  refine lv_iload_n hx hb dX9_serve_19 rfl (lv_at hl 0 rfl) ?_
  refine lv_iadd hx hb dX9_serve_20 ?_
  obtain ⟨g_42, hE⟩ := gi_el hE
  refine va_lald hx hb hK hP 1 1 rfl rfl g_42 dX9_serve_21 ?_
  refine lv_aload_n hx hb dX9_serve_22 rfl (lv_at hl 1 rfl) ?_
  refine va_get (D := D) (ci := 9) (v := .ref (aM 1)) (C := RX9) (T := TX9) (N := 13) hx hb hts iX9 hown hK hP 0 rfl rfl 0 (by decide) f7 (fun _ h9 => h9) rfl dX9_serve_23 ?_
  refine lv_iconst (v := 3) hx hb dX9_serve_26 (by decide) ?_
  refine va_lald hx hb hK hP 1 1 rfl rfl (show ¬ ((3 : Int32) < 0 ∨ 1888 ≤ (3 : Int32).toNatClampNeg) by decide) dX9_serve_27 ?_
  refine W.lcmp hx hb dX9_serve_28 ?_
  refine lv_if_gt (tgt := 60) hx hb dX9_serve_29 (by decide) (fun c_43 => ?_) (fun c_43 => ?_)
  · replace hE := it_t hE c_43
    have hE := Option.some.inj hE
    exact ev hx hb hr hlocks hK hP hD hS (by rw [hE]) dX9_serve_60
  · replace hE := it_f hE c_43
    refine lv_aload_n hx hb dX9_serve_32 rfl (lv_at hl 1 rfl) ?_
    refine va_get (D := D) (ci := 9) (v := .ref (aM 1)) (C := RX9) (T := TX9) (N := 13) hx hb hts iX9 hown hK hP 0 rfl rfl 0 (by decide) f7 (fun _ h9 => h9) rfl dX9_serve_33 ?_
    refine lv_sipush (v := 1331) hx hb dX9_serve_36 (by decide) ?_
    refine lv_iload_n hx hb dX9_serve_39 rfl (lv_at hl 2 rfl) ?_
    refine lv_iadd hx hb dX9_serve_40 ?_
    obtain ⟨g_44, hE⟩ := gi_el hE
    refine va_lald hx hb hK hP 1 1 rfl rfl g_44 dX9_serve_41 ?_
    refine lv_lconst (v := 1) hx hb dX9_serve_42 (by decide) ?_
    refine W.lcmp hx hb dX9_serve_43 ?_
    refine lv_if_ne (tgt := 61) hx hb dX9_serve_44 (by decide) (fun c_45 => ?_) (fun c_45 => ?_)
    · replace hE := it_f hE c_45
      exact h61 x1 x2_41 inM _ _ _ hE hP hD hS (lv_sub hl [1, 2, 0] rfl)
    · replace hE := it_t hE c_45
      refine lv_aload_n hx hb dX9_serve_47 rfl (lv_at hl 1 rfl) ?_
      obtain ⟨r_46, hc_47, hE⟩ := bd1_el hE
      refine kl (X := []) (Y := []) (ws1 := (W_M cy aM imM inM)) (rV (X := []) (Y := []) (As := []) (rest := []) hC (c_X9_stored l D cy aM imM inM r_46 hc_47) (cwV 0 hts gX9_serve_X9_stored rfl rfl rfl cd_X9_stored ⟨Nat.le_of_ble_eq_true rfl, Nat.le_of_ble_eq_true rfl⟩) hK hN hP hD hS hA rfl 0 9 rfl rfl rfl hl.1 rfl (lv_room (Nat.le_of_ble_eq_true rfl)) dX9_serve_48 ⟨Nat.le_of_ble_eq_true rfl, Nat.le_of_ble_eq_true rfl⟩) hP hD hS hA rfl rfl rfl (fun H locs hP hD hS => ?_)
      refine lv_aload_n hx hb dX9_serve_51 rfl (lv_at hl 1 rfl) ?_
      refine lv_iload_n hx hb dX9_serve_52 rfl (lv_at hl 2 rfl) ?_
      obtain ⟨r_48, hc_49, hE⟩ := bd1_el hE
      refine kl (X := []) (Y := []) (ws1 := (W_M cy aM imM inM)) (rV (X := []) (Y := []) (As := [.int x1]) (rest := [.long r_46]) hC (c_X9_remaining l D cy aM x1 imM inM r_48 hc_49) (cwV 1 hts gX9_serve_X9_remaining rfl rfl rfl cd_X9_remaining ⟨Nat.le_of_ble_eq_true rfl, Nat.le_of_ble_eq_true rfl⟩) hK hN hP hD hS hA rfl 0 9 rfl rfl rfl hl.1 rfl (lv_room (Nat.le_of_ble_eq_true rfl)) dX9_serve_53 ⟨Nat.le_of_ble_eq_true rfl, Nat.le_of_ble_eq_true rfl⟩) hP hD hS hA rfl rfl rfl (fun H locs hP hD hS => ?_)
      refine W.lcmp hx hb dX9_serve_56 ?_
      refine lv_if_ge (tgt := 61) hx hb dX9_serve_57 (by decide) (fun c_50 => ?_) (fun c_50 => ?_)
      · replace hE := it_t hE c_50
        exact h61 x1 x2_41 inM _ _ _ hE hP hD hS (lv_sub hl [1, 2, 0] rfl)
      · replace hE := it_f hE c_50
        have hE := Option.some.inj hE
        exact ev hx hb hr hlocks hK hP hD hS (by rw [hE]) dX9_serve_60
abbrev rm_X9_openMany : Room := { frames := 0, cells := 0, slots := 0, locals := 0 }
set_option maxHeartbeats 40000000 in
set_option maxRecDepth 100000 in
theorem c_X9_openMany (l : Launch) (D : va_G) (cy : Nat → Nat) (aM : Nat → Nat) (imM : Mem) (inM : MemL) (r' : Int32) (hE : f_X9_openMany imM inM = some r') : CI l yX9_openMany wsX9_openMany rm_X9_openMany D cy [.ref (aM 0)] (W_M cy aM imM inM) 0 0 r' (W_M cy aM imM inM) := by
  refine CQ_of (cc := cX9_openMany) (maxL := 3) (ret := (some .int)) (by decide) rfl (Nat.le_of_ble_eq_true rfl) (fun p e s m args below meth c A ls hx hb hr hml hlocks hnm hown hts hA hK hN hP hD hS hl => ?_)
  have hown : s.vm.findClass RX9 = some m.cls := hown
  have hl : lv_has ls 3 [(0, .ref (aM 0))] := hl
  have f7 : (Cond.fieldLink RX9 7 "IcePlantModel" "w" "[J").before args s = true := hts _ (mC qf_X9_7)
  have iX9 : ∀ w ∈ wsX90, w ∈ wsX9_openMany := fun w h => mC (iA_X9 w h)
  have h39 : ∀ (x2 : Int32) (t0 : Int32) (t1 : Int32), ∀ (k4 : (Int32 → Int32 → Option (Int32))), (∀ (x1 : Int32) (x2 : Int32) (H : Heap) (locs : List Loc) (ls : Array Slot), k4 x1 x2 = some r' → va_P D vwCl (W_M cy aM imM inM) H → va_D A (W_M cy aM imM inM) → va_S A s.heap H locs → lv_has ls 3 [(0, .ref (aM 0)), (1, .int x1), (2, .int x2)] → W p l e rm_X9_openMany s m args below meth c H locs 0 0 (MQ below (QI D cy r' (W_M cy aM imM inM) A) args s 0 0 A) (F0 m 4 ls [])) → ∀  (H : Heap) (locs : List Loc) (ls : Array Slot), f_X9_openMany_b39 k4 x2 t0 t1 imM inM = some r' → va_P D vwCl (W_M cy aM imM inM) H → va_D A (W_M cy aM imM inM) → va_S A s.heap H locs → lv_has ls 3 [(0, .ref (aM 0)), (2, .int x2)] → W p l e rm_X9_openMany s m args below meth c H locs 0 0 (MQ below (QI D cy r' (W_M cy aM imM inM) A) args s 0 0 A) (F0 m 39 ls [.int t0, .int t1]) := by
    intro x2 t0 t1 k4 hk4 H locs ls hE hP hD hS hl
    replace hE : (lt' (t1 + t0) fun x1_1 => lt' (x2 + (1 : Int32)) fun x2_2 => k4 x1_1 x2_2) = some r' := hE
    refine lv_iadd hx hb dX9_openMany_39 ?_
    obtain ⟨x1_1, e_x1_1, hE⟩ := lt_el hE
    refine s_nm e_x1_1 ?_
    refine lv_istore_n (lv' := [(1, .int x1_1), (0, .ref (aM 0)), (2, .int x2)]) hx hb dX9_openMany_40 rfl hl (by decide) rfl (fun ls hl => ?_)
    obtain ⟨x2_2, e_x2_2, hE⟩ := lt_el hE
    refine lv_iinc (v := x2_2) (lv' := [(2, .int x2_2), (1, .int x1_1), (0, .ref (aM 0))]) hx hb dX9_openMany_41 hl (k := 2) rfl (by rw [e_x2_2]; rfl) (by decide) rfl (fun ls hl => ?_)
    refine lv_goto (tgt := 4) hx hb dX9_openMany_44 (by decide) ?_
    exact hk4 x1_1 x2_2 _ _ _ hE hP hD hS (lv_sub hl [2, 1, 0] rfl)
  have h4 : ∀ (n : Nat), ∀ (x1 : Int32) (x2 : Int32) (H : Heap) (locs : List Loc) (ls : Array Slot), f_X9_openMany_L4 imM inM n x1 x2 = some r' → va_P D vwCl (W_M cy aM imM inM) H → va_D A (W_M cy aM imM inM) → va_S A s.heap H locs → lv_has ls 3 [(0, .ref (aM 0)), (1, .int x1), (2, .int x2)] → W p l e rm_X9_openMany s m args below meth c H locs 0 0 (MQ below (QI D cy r' (W_M cy aM imM inM) A) args s 0 0 A) (F0 m 4 ls []) := by
    intro n
    induction n with
    | zero => intro x1 x2 H locs ls hE; exact absurd hE (fun h9 => nomatch h9)
    | succ n ih =>
      intro x1 x2 H locs ls hE hP hD hS hl
      replace hE : ((if 0 ≤ (lg_cmp (x2.toInt64) (inM 0 (1882 : Int32).toNatClampNeg)) then some x1 else gi ((1531 : Int32) + x2) 1888 ((if (lg_cmp (inM 0 ((1531 : Int32) + x2).toNatClampNeg) (0 : Int64)) = 0 then f_X9_openMany_b39 (f_X9_openMany_L4 imM inM n) x2 (1 : Int32) x1 imM inM else f_X9_openMany_b39 (f_X9_openMany_L4 imM inM n) x2 (0 : Int32) x1 imM inM)))) = some r' := hE
      refine lv_iload_n hx hb dX9_openMany_4 rfl (lv_at hl 2 rfl) ?_
      refine lv_i2l hx hb dX9_openMany_5 rfl ?_
      refine lv_aload_n hx hb dX9_openMany_6 rfl (lv_at hl 0 rfl) ?_
      refine va_get (D := D) (ci := 9) (v := .ref (aM 1)) (C := RX9) (T := TX9) (N := 13) hx hb hts iX9 hown hK hP 0 rfl rfl 0 (by decide) f7 (fun _ h9 => h9) rfl dX9_openMany_7 ?_
      refine lv_sipush (v := 1882) hx hb dX9_openMany_10 (by decide) ?_
      refine va_lald hx hb hK hP 1 1 rfl rfl (show ¬ ((1882 : Int32) < 0 ∨ 1888 ≤ (1882 : Int32).toNatClampNeg) by decide) dX9_openMany_13 ?_
      refine W.lcmp hx hb dX9_openMany_14 ?_
      refine lv_if_ge (tgt := 47) hx hb dX9_openMany_15 (by decide) (fun c_3 => ?_) (fun c_3 => ?_)
      · replace hE := it_t hE c_3
        refine lv_iload_n hx hb dX9_openMany_47 rfl (lv_at hl 1 rfl) ?_
        have hE := Option.some.inj hE
        exact ei hx hb hr hlocks hK hP hD hS hE rfl dX9_openMany_48
      · replace hE := it_f hE c_3
        refine lv_iload_n hx hb dX9_openMany_18 rfl (lv_at hl 1 rfl) ?_
        refine lv_aload_n hx hb dX9_openMany_19 rfl (lv_at hl 0 rfl) ?_
        refine va_get (D := D) (ci := 9) (v := .ref (aM 1)) (C := RX9) (T := TX9) (N := 13) hx hb hts iX9 hown hK hP 0 rfl rfl 0 (by decide) f7 (fun _ h9 => h9) rfl dX9_openMany_20 ?_
        refine lv_sipush (v := 1531) hx hb dX9_openMany_23 (by decide) ?_
        refine lv_iload_n hx hb dX9_openMany_26 rfl (lv_at hl 2 rfl) ?_
        refine lv_iadd hx hb dX9_openMany_27 ?_
        obtain ⟨g_4, hE⟩ := gi_el hE
        refine va_lald hx hb hK hP 1 1 rfl rfl g_4 dX9_openMany_28 ?_
        refine lv_lconst (v := 0) hx hb dX9_openMany_29 (by decide) ?_
        refine W.lcmp hx hb dX9_openMany_30 ?_
        refine lv_if_ne (tgt := 38) hx hb dX9_openMany_31 (by decide) (fun c_5 => ?_) (fun c_5 => ?_)
        · replace hE := it_f hE c_5
          refine lv_iconst (v := 0) hx hb dX9_openMany_38 (by decide) ?_
          exact h39 x2 (0 : Int32) x1 (f_X9_openMany_L4 imM inM n) ih _ _ _ hE hP hD hS (lv_sub hl [0, 2] rfl)
        · replace hE := it_t hE c_5
          refine lv_iconst (v := 1) hx hb dX9_openMany_34 (by decide) ?_
          refine lv_goto (tgt := 39) hx hb dX9_openMany_35 (by decide) ?_
          exact h39 x2 (1 : Int32) x1 (f_X9_openMany_L4 imM inM n) ih _ _ _ hE hP hD hS (lv_sub hl [0, 2] rfl)
  unfold f_X9_openMany at hE
  refine lv_iconst (v := 0) hx hb dX9_openMany_0 (by decide) ?_
  refine lv_istore_n (lv' := [(1, .int (0 : Int32)), (0, .ref (aM 0))]) hx hb dX9_openMany_1 rfl hl (by decide) rfl (fun ls hl => ?_)
  refine lv_iconst (v := 0) hx hb dX9_openMany_2 (by decide) ?_
  refine lv_istore_n (lv' := [(2, .int (0 : Int32)), (1, .int (0 : Int32)), (0, .ref (aM 0))]) hx hb dX9_openMany_3 rfl hl (by decide) rfl (fun ls hl => ?_)
  exact h4 fuel (0 : Int32) (0 : Int32) _ _ _ hE hP hD hS (lv_sub hl [2, 1, 0] rfl)
abbrev rm_X9_deliver : Room := { frames := 4, cells := 0, slots := 0, locals := 102 }
set_option maxHeartbeats 40000000 in
set_option maxRecDepth 100000 in
theorem c_X9_deliver (l : Launch) (D : va_G) (cy : Nat → Nat) (aM : Nat → Nat) (imM : Mem) (inM : MemL) (mM' : Mem) (nM' : MemL) (hE : f_X9_deliver imM inM = some (mM', nM')) : CV l yX9_deliver wsX9_deliver rm_X9_deliver D cy [.ref (aM 0)] (W_M cy aM imM inM) 0 0 (W_M cy aM mM' nM') := by
  refine CQ_of (cc := cX9_deliver) (maxL := 3) (ret := none) (by decide) rfl (Nat.le_of_ble_eq_true rfl) (fun p e s m args below meth c A ls hx hb hr hml hlocks hnm hown hts hA hK hN hP hD hS hl => ?_)
  have hown : s.vm.findClass RX9 = some m.cls := hown
  have hl : lv_has ls 3 [(0, .ref (aM 0))] := hl
  have hC : CallFix p m c cX9_deliver 3 s args wsX9_deliver RX9 := ⟨hx, hb, hml, hown, hts⟩
  have f7 : (Cond.fieldLink RX9 7 "IcePlantModel" "w" "[J").before args s = true := hts _ (mC qf_X9_7)
  have f19 : (Cond.fieldLink RX9 19 "IcePlantModel" "line" "[I").before args s = true := hts _ (mC qf_X9_19)
  have iX9 : ∀ w ∈ wsX90, w ∈ wsX9_deliver := fun w h => mC (iA_X9 w h)
  have h55 : ∀ (x1 : Int32) (mM : Mem), ∀ (n : Nat), ∀ (x2 : Int32) (nM : MemL) (H : Heap) (locs : List Loc) (ls : Array Slot), f_X9_deliver_L55 x1 mM n x2 nM = some (mM', nM') → va_P D vwCl (W_M cy aM mM nM) H → va_D A (W_M cy aM mM nM) → va_S A s.heap H locs → lv_has ls 3 [(0, .ref (aM 0)), (1, .int x1), (2, .int x2)] → W p l e rm_X9_deliver s m args below meth c H locs 0 0 (MQ below (QV D cy (W_M cy aM mM' nM') A) args s 0 0 A) (F0 m 55 ls []) := by
    intro x1 mM n
    induction n with
    | zero => intro x2 nM H locs ls hE; exact absurd hE (fun h9 => nomatch h9)
    | succ n ih =>
      intro x2 nM H locs ls hE hP hD hS hl
      replace hE : ((if x1 ≤ x2 then some (mM, nM) else gi x2 20 (bd1 (f_X9_serve (mM 3 x2.toNatClampNeg) mM nM) fun nM_3 => lt' (x2 + (1 : Int32)) fun x2_5 => (f_X9_deliver_L55 x1 mM n) x2_5 nM_3))) = some (mM', nM') := hE
      refine lv_iload_n hx hb dX9_deliver_55 rfl (lv_at hl 2 rfl) ?_
      refine lv_iload_n hx hb dX9_deliver_56 rfl (lv_at hl 1 rfl) ?_
      refine lv_icmp_ge (tgt := 76) hx hb dX9_deliver_57 (by decide) (fun c_1 => ?_) (fun c_1 => ?_)
      · replace hE := it_t hE c_1
        have hE := Option.some.inj hE
        obtain ⟨q0, q1⟩ := Prod.mk.inj hE
        exact ev hx hb hr hlocks hK hP hD hS (by rw [q0, q1]) dX9_deliver_76
      · replace hE := it_f hE c_1
        refine lv_aload_n hx hb dX9_deliver_60 rfl (lv_at hl 0 rfl) ?_
        refine lv_aload_n hx hb dX9_deliver_61 rfl (lv_at hl 0 rfl) ?_
        refine va_get (D := D) (ci := 9) (v := .ref (aM 4)) (C := RX9) (T := TX9) (N := 13) hx hb hts iX9 hown hK hP 0 rfl rfl 3 (by decide) f19 (fun _ h9 => h9) rfl dX9_deliver_62 ?_
        refine lv_iload_n hx hb dX9_deliver_65 rfl (lv_at hl 2 rfl) ?_
        obtain ⟨g_2, hE⟩ := gi_el hE
        refine va_iald hx hb hK hP 4 0 rfl rfl g_2 dX9_deliver_66 ?_
        obtain ⟨nM_3, hc_4, hE⟩ := bd1_el hE
        refine kv (X := []) (Y := []) (ws1 := (W_M cy aM mM nM_3)) (rV (X := []) (Y := []) (As := [.int (mM 3 x2.toNatClampNeg)]) (rest := []) hC (c_X9_serve l D cy aM (mM 3 x2.toNatClampNeg) mM nM nM_3 hc_4) (cwV 1 hts gX9_deliver_X9_serve rfl rfl rfl cd_X9_serve ⟨Nat.le_of_ble_eq_true rfl, Nat.le_of_ble_eq_true rfl⟩) hK hN hP hD hS hA rfl 0 9 rfl rfl rfl hl.1 rfl (lv_room (Nat.le_of_ble_eq_true rfl)) dX9_deliver_67 ⟨Nat.le_of_ble_eq_true rfl, Nat.le_of_ble_eq_true rfl⟩) hP hD hS hA rfl rfl rfl (fun H locs hP hD hS => ?_)
        obtain ⟨x2_5, e_x2_5, hE⟩ := lt_el hE
        refine lv_iinc (v := x2_5) (lv' := [(2, .int x2_5), (0, .ref (aM 0)), (1, .int x1)]) hx hb dX9_deliver_70 hl (k := 2) rfl (by rw [e_x2_5]; rfl) (by decide) rfl (fun ls hl => ?_)
        refine lv_goto (tgt := 55) hx hb dX9_deliver_73 (by decide) ?_
        exact ih x2_5 nM_3 _ _ _ hE hP hD hS (lv_sub hl [1, 2, 0] rfl)
  have h47 : ∀ (x1 : Int32) (x2 : Int32) (mM : Mem) (nM : MemL), ∀ (k7 : (Int32 → Mem → Option (Mem × MemL))), (∀ (x2 : Int32) (mM : Mem) (H : Heap) (locs : List Loc) (ls : Array Slot), k7 x2 mM = some (mM', nM') → va_P D vwCl (W_M cy aM mM nM) H → va_D A (W_M cy aM mM nM) → va_S A s.heap H locs → lv_has ls 3 [(0, .ref (aM 0)), (1, .int x1), (2, .int x2)] → W p l e rm_X9_deliver s m args below meth c H locs 0 0 (MQ below (QV D cy (W_M cy aM mM' nM') A) args s 0 0 A) (F0 m 7 ls [])) → ∀  (H : Heap) (locs : List Loc) (ls : Array Slot), f_X9_deliver_b47 k7 x1 x2 mM nM = some (mM', nM') → va_P D vwCl (W_M cy aM mM nM) H → va_D A (W_M cy aM mM nM) → va_S A s.heap H locs → lv_has ls 3 [(0, .ref (aM 0)), (1, .int x1), (2, .int x2)] → W p l e rm_X9_deliver s m args below meth c H locs 0 0 (MQ below (QV D cy (W_M cy aM mM' nM') A) args s 0 0 A) (F0 m 47 ls []) := by
    intro x1 x2 mM nM k7 hk7 H locs ls hE hP hD hS hl
    replace hE : (lt' (x2 + (1 : Int32)) fun x2_6 => k7 x2_6 mM) = some (mM', nM') := hE
    obtain ⟨x2_6, e_x2_6, hE⟩ := lt_el hE
    refine lv_iinc (v := x2_6) (lv' := [(2, .int x2_6), (0, .ref (aM 0)), (1, .int x1)]) hx hb dX9_deliver_47 hl (k := 2) rfl (by rw [e_x2_6]; rfl) (by decide) rfl (fun ls hl => ?_)
    refine lv_goto (tgt := 7) hx hb dX9_deliver_50 (by decide) ?_
    exact hk7 x2_6 mM _ _ _ hE hP hD hS (lv_sub hl [1, 2, 0] rfl)
  have h7 : ∀ (x1 : Int32) (nM : MemL), ∀ (n : Nat), ∀ (x2 : Int32) (mM : Mem) (H : Heap) (locs : List Loc) (ls : Array Slot), f_X9_deliver_L7 x1 nM n x2 mM = some (mM', nM') → va_P D vwCl (W_M cy aM mM nM) H → va_D A (W_M cy aM mM nM) → va_S A s.heap H locs → lv_has ls 3 [(0, .ref (aM 0)), (1, .int x1), (2, .int x2)] → W p l e rm_X9_deliver s m args below meth c H locs 0 0 (MQ below (QV D cy (W_M cy aM mM' nM') A) args s 0 0 A) (F0 m 7 ls []) := by
    intro x1 nM n
    induction n with
    | zero => intro x2 mM H locs ls hE; exact absurd hE (fun h9 => nomatch h9)
    | succ n ih =>
      intro x2 mM H locs ls hE hP hD hS hl
      replace hE : ((if 0 ≤ (lg_cmp (x2.toInt64) (nM 0 (1882 : Int32).toNatClampNeg)) then f_X9_deliver_L55 x1 mM fuel (0 : Int32) nM else gi ((1531 : Int32) + x2) 1888 ((if (lg_cmp (nM 0 ((1531 : Int32) + x2).toNatClampNeg) (0 : Int64)) = 0 then bd1 (f_X9_aheadOf x2 mM nM) fun r_10 => gi r_10 20 (lt' (wrI mM 3 (upd (mM 3) r_10.toNatClampNeg x2)) fun mM_12 => f_X9_deliver_b47 (f_X9_deliver_L7 x1 nM n) x1 x2 mM_12 nM) else f_X9_deliver_b47 (f_X9_deliver_L7 x1 nM n) x1 x2 mM nM)))) = some (mM', nM') := hE
      refine lv_iload_n hx hb dX9_deliver_7 rfl (lv_at hl 2 rfl) ?_
      refine lv_i2l hx hb dX9_deliver_8 rfl ?_
      refine lv_aload_n hx hb dX9_deliver_9 rfl (lv_at hl 0 rfl) ?_
      refine va_get (D := D) (ci := 9) (v := .ref (aM 1)) (C := RX9) (T := TX9) (N := 13) hx hb hts iX9 hown hK hP 0 rfl rfl 0 (by decide) f7 (fun _ h9 => h9) rfl dX9_deliver_10 ?_
      refine lv_sipush (v := 1882) hx hb dX9_deliver_13 (by decide) ?_
      refine va_lald hx hb hK hP 1 1 rfl rfl (show ¬ ((1882 : Int32) < 0 ∨ 1888 ≤ (1882 : Int32).toNatClampNeg) by decide) dX9_deliver_16 ?_
      refine W.lcmp hx hb dX9_deliver_17 ?_
      refine lv_if_ge (tgt := 53) hx hb dX9_deliver_18 (by decide) (fun c_7 => ?_) (fun c_7 => ?_)
      · replace hE := it_t hE c_7
        refine lv_iconst (v := 0) hx hb dX9_deliver_53 (by decide) ?_
        refine lv_istore_n (lv' := [(2, .int (0 : Int32)), (0, .ref (aM 0)), (1, .int x1)]) hx hb dX9_deliver_54 rfl hl (by decide) rfl (fun ls hl => ?_)
        exact h55 x1 mM fuel (0 : Int32) nM _ _ _ hE hP hD hS (lv_sub hl [1, 2, 0] rfl)
      · replace hE := it_f hE c_7
        refine lv_aload_n hx hb dX9_deliver_21 rfl (lv_at hl 0 rfl) ?_
        refine va_get (D := D) (ci := 9) (v := .ref (aM 1)) (C := RX9) (T := TX9) (N := 13) hx hb hts iX9 hown hK hP 0 rfl rfl 0 (by decide) f7 (fun _ h9 => h9) rfl dX9_deliver_22 ?_
        refine lv_sipush (v := 1531) hx hb dX9_deliver_25 (by decide) ?_
        refine lv_iload_n hx hb dX9_deliver_28 rfl (lv_at hl 2 rfl) ?_
        refine lv_iadd hx hb dX9_deliver_29 ?_
        obtain ⟨g_8, hE⟩ := gi_el hE
        refine va_lald hx hb hK hP 1 1 rfl rfl g_8 dX9_deliver_30 ?_
        refine lv_lconst (v := 0) hx hb dX9_deliver_31 (by decide) ?_
        refine W.lcmp hx hb dX9_deliver_32 ?_
        refine lv_if_ne (tgt := 47) hx hb dX9_deliver_33 (by decide) (fun c_9 => ?_) (fun c_9 => ?_)
        · replace hE := it_f hE c_9
          exact h47 x1 x2 mM nM (f_X9_deliver_L7 x1 nM n) ih _ _ _ hE hP hD hS (lv_sub hl [0, 1, 2] rfl)
        · replace hE := it_t hE c_9
          refine lv_aload_n hx hb dX9_deliver_36 rfl (lv_at hl 0 rfl) ?_
          refine va_get (D := D) (ci := 9) (v := .ref (aM 4)) (C := RX9) (T := TX9) (N := 13) hx hb hts iX9 hown hK hP 0 rfl rfl 3 (by decide) f19 (fun _ h9 => h9) rfl dX9_deliver_37 ?_
          refine lv_aload_n hx hb dX9_deliver_40 rfl (lv_at hl 0 rfl) ?_
          refine lv_iload_n hx hb dX9_deliver_41 rfl (lv_at hl 2 rfl) ?_
          obtain ⟨r_10, hc_11, hE⟩ := bd1_el hE
          refine ki (X := []) (Y := []) (ws1 := (W_M cy aM mM nM)) (rV (X := []) (Y := []) (As := [.int x2]) (rest := [.ref (aM 4)]) hC (c_X9_aheadOf l D cy aM x2 mM nM r_10 hc_11) (cwV 1 hts gX9_deliver_X9_aheadOf rfl rfl rfl cd_X9_aheadOf ⟨Nat.le_of_ble_eq_true rfl, Nat.le_of_ble_eq_true rfl⟩) hK hN hP hD hS hA rfl 0 9 rfl rfl rfl hl.1 rfl (lv_room (Nat.le_of_ble_eq_true rfl)) dX9_deliver_42 ⟨Nat.le_of_ble_eq_true rfl, Nat.le_of_ble_eq_true rfl⟩) hP hD hS hA rfl rfl rfl (fun H locs hP hD hS => ?_)
          refine lv_iload_n hx hb dX9_deliver_45 rfl (lv_at hl 2 rfl) ?_
          obtain ⟨g_13, hE⟩ := gi_el hE
          obtain ⟨mM_12, e_mM_12, hE⟩ := lt_el hE
          refine s_ia (ws1 := (W_M cy aM mM_12 nM)) hx hb hK hP hD hS 4 rfl g_13 (by rw [e_mM_12]; rfl) dX9_deliver_46 (fun H locs hP hD hS => ?_)
          exact h47 x1 x2 mM_12 nM (f_X9_deliver_L7 x1 nM n) ih _ _ _ hE hP hD hS (lv_sub hl [0, 1, 2] rfl)
  unfold f_X9_deliver at hE
  refine lv_aload_n hx hb dX9_deliver_0 rfl (lv_at hl 0 rfl) ?_
  obtain ⟨r_14, hc_15, hE⟩ := bd1_el hE
  refine ki (X := []) (Y := []) (ws1 := (W_M cy aM imM inM)) (rV (X := []) (Y := []) (As := []) (rest := []) hC (c_X9_openMany l D cy aM imM inM r_14 hc_15) (cwV 0 hts gX9_deliver_X9_openMany rfl rfl rfl cd_X9_openMany ⟨Nat.le_of_ble_eq_true rfl, Nat.le_of_ble_eq_true rfl⟩) hK hN hP hD hS hA rfl 0 9 rfl rfl rfl hl.1 rfl (lv_room (Nat.le_of_ble_eq_true rfl)) dX9_deliver_1 ⟨Nat.le_of_ble_eq_true rfl, Nat.le_of_ble_eq_true rfl⟩) hP hD hS hA rfl rfl rfl (fun H locs hP hD hS => ?_)
  refine lv_istore_n (lv' := [(1, .int r_14), (0, .ref (aM 0))]) hx hb dX9_deliver_4 rfl hl (by decide) rfl (fun ls hl => ?_)
  refine lv_iconst (v := 0) hx hb dX9_deliver_5 (by decide) ?_
  refine lv_istore_n (lv' := [(2, .int (0 : Int32)), (1, .int r_14), (0, .ref (aM 0))]) hx hb dX9_deliver_6 rfl hl (by decide) rfl (fun ls hl => ?_)
  exact h7 r_14 inM fuel (0 : Int32) imM _ _ _ hE hP hD hS (lv_sub hl [2, 1, 0] rfl)
abbrev rm_X9_expire : Room := { frames := 0, cells := 0, slots := 0, locals := 0 }
set_option maxHeartbeats 40000000 in
set_option maxRecDepth 100000 in
theorem c_X9_expire (l : Launch) (D : va_G) (cy : Nat → Nat) (aM : Nat → Nat) (imM : Mem) (inM : MemL) (nM' : MemL) (hE : f_X9_expire imM inM = some nM') : CV l yX9_expire wsX9_expire rm_X9_expire D cy [.ref (aM 0)] (W_M cy aM imM inM) 0 0 (W_M cy aM imM nM') := by
  refine CQ_of (cc := cX9_expire) (maxL := 2) (ret := none) (by decide) rfl (Nat.le_of_ble_eq_true rfl) (fun p e s m args below meth c A ls hx hb hr hml hlocks hnm hown hts hA hK hN hP hD hS hl => ?_)
  have hown : s.vm.findClass RX9 = some m.cls := hown
  have hl : lv_has ls 2 [(0, .ref (aM 0))] := hl
  have f7 : (Cond.fieldLink RX9 7 "IcePlantModel" "w" "[J").before args s = true := hts _ (mC qf_X9_7)
  have iX9 : ∀ w ∈ wsX90, w ∈ wsX9_expire := fun w h => mC (iA_X9 w h)
  have k31 : (Cond.constantLong RX9 31 (2)).before args s = true := hts _ (mC qk_X9_31)
  have h77 : ∀ (x1 : Int32) (nM : MemL), ∀ (k2 : (Int32 → MemL → Option (MemL))), (∀ (x1 : Int32) (nM : MemL) (H : Heap) (locs : List Loc) (ls : Array Slot), k2 x1 nM = some nM' → va_P D vwCl (W_M cy aM imM nM) H → va_D A (W_M cy aM imM nM) → va_S A s.heap H locs → lv_has ls 2 [(0, .ref (aM 0)), (1, .int x1)] → W p l e rm_X9_expire s m args below meth c H locs 0 0 (MQ below (QV D cy (W_M cy aM imM nM') A) args s 0 0 A) (F0 m 2 ls [])) → ∀  (H : Heap) (locs : List Loc) (ls : Array Slot), f_X9_expire_b77 k2 x1 imM nM = some nM' → va_P D vwCl (W_M cy aM imM nM) H → va_D A (W_M cy aM imM nM) → va_S A s.heap H locs → lv_has ls 2 [(0, .ref (aM 0)), (1, .int x1)] → W p l e rm_X9_expire s m args below meth c H locs 0 0 (MQ below (QV D cy (W_M cy aM imM nM') A) args s 0 0 A) (F0 m 77 ls []) := by
    intro x1 nM k2 hk2 H locs ls hE hP hD hS hl
    replace hE : (lt' (x1 + (1 : Int32)) fun x1_1 => k2 x1_1 nM) = some nM' := hE
    obtain ⟨x1_1, e_x1_1, hE⟩ := lt_el hE
    refine lv_iinc (v := x1_1) (lv' := [(1, .int x1_1), (0, .ref (aM 0))]) hx hb dX9_expire_77 hl (k := 1) rfl (by rw [e_x1_1]; rfl) (by decide) rfl (fun ls hl => ?_)
    refine lv_goto (tgt := 2) hx hb dX9_expire_80 (by decide) ?_
    exact hk2 x1_1 nM _ _ _ hE hP hD hS (lv_sub hl [1, 0] rfl)
  have h76 : ∀ (x1 : Int32) (t0 : Int64) (t1 : Int32) (nM : MemL), ∀ (k2 : (Int32 → MemL → Option (MemL))), (∀ (x1 : Int32) (nM : MemL) (H : Heap) (locs : List Loc) (ls : Array Slot), k2 x1 nM = some nM' → va_P D vwCl (W_M cy aM imM nM) H → va_D A (W_M cy aM imM nM) → va_S A s.heap H locs → lv_has ls 2 [(0, .ref (aM 0)), (1, .int x1)] → W p l e rm_X9_expire s m args below meth c H locs 0 0 (MQ below (QV D cy (W_M cy aM imM nM') A) args s 0 0 A) (F0 m 2 ls [])) → ∀  (H : Heap) (locs : List Loc) (ls : Array Slot), f_X9_expire_b76 k2 x1 t0 t1 imM nM = some nM' → va_P D vwCl (W_M cy aM imM nM) H → va_D A (W_M cy aM imM nM) → va_S A s.heap H locs → lv_has ls 2 [(0, .ref (aM 0)), (1, .int x1)] → W p l e rm_X9_expire s m args below meth c H locs 0 0 (MQ below (QV D cy (W_M cy aM imM nM') A) args s 0 0 A) (F0 m 76 ls [.long t0, .int t1, .ref (aM 1)]) := by
    intro x1 t0 t1 nM k2 hk2 H locs ls hE hP hD hS hl
    replace hE : (gi t1 1888 (lt' (wrL nM 0 (vp_updL (nM 0) t1.toNatClampNeg t0)) fun nM_2 => f_X9_expire_b77 k2 x1 imM nM_2)) = some nM' := hE
    obtain ⟨g_3, hE⟩ := gi_el hE
    obtain ⟨nM_2, e_nM_2, hE⟩ := lt_el hE
    refine s_la (ws1 := (W_M cy aM imM nM_2)) hx hb hK hP hD hS 1 rfl g_3 (by rw [e_nM_2]; rfl) dX9_expire_76 (fun H locs hP hD hS => ?_)
    exact h77 x1 nM_2 k2 hk2 _ _ _ hE hP hD hS (lv_sub hl [0, 1] rfl)
  have h2 : ∀ (n : Nat), ∀ (x1 : Int32) (nM : MemL) (H : Heap) (locs : List Loc) (ls : Array Slot), f_X9_expire_L2 imM n x1 nM = some nM' → va_P D vwCl (W_M cy aM imM nM) H → va_D A (W_M cy aM imM nM) → va_S A s.heap H locs → lv_has ls 2 [(0, .ref (aM 0)), (1, .int x1)] → W p l e rm_X9_expire s m args below meth c H locs 0 0 (MQ below (QV D cy (W_M cy aM imM nM') A) args s 0 0 A) (F0 m 2 ls []) := by
    intro n
    induction n with
    | zero => intro x1 nM H locs ls hE; exact absurd hE (fun h9 => nomatch h9)
    | succ n ih =>
      intro x1 nM H locs ls hE hP hD hS hl
      replace hE : ((if 0 ≤ (lg_cmp (x1.toInt64) (nM 0 (1882 : Int32).toNatClampNeg)) then some nM else gi ((1531 : Int32) + x1) 1888 ((if (lg_cmp (nM 0 ((1531 : Int32) + x1).toNatClampNeg) (0 : Int64)) = 0 then gi ((1131 : Int32) + x1) 1888 (gi ((1131 : Int32) + x1) 1888 (lt' (wrL nM 0 (vp_updL (nM 0) ((1131 : Int32) + x1).toNatClampNeg ((nM 0 ((1131 : Int32) + x1).toNatClampNeg) - (1 : Int64)))) fun nM_8 => gi ((1131 : Int32) + x1) 1888 ((if (lg_cmp (nM_8 0 ((1131 : Int32) + x1).toNatClampNeg) (0 : Int64)) = 0 then f_X9_expire_b76 (f_X9_expire_L2 imM n) x1 (2 : Int64) ((1531 : Int32) + x1) imM nM_8 else f_X9_expire_b76 (f_X9_expire_L2 imM n) x1 (0 : Int64) ((1531 : Int32) + x1) imM nM_8)))) else f_X9_expire_b77 (f_X9_expire_L2 imM n) x1 imM nM)))) = some nM' := hE
      refine lv_iload_n hx hb dX9_expire_2 rfl (lv_at hl 1 rfl) ?_
      refine lv_i2l hx hb dX9_expire_3 rfl ?_
      refine lv_aload_n hx hb dX9_expire_4 rfl (lv_at hl 0 rfl) ?_
      refine va_get (D := D) (ci := 9) (v := .ref (aM 1)) (C := RX9) (T := TX9) (N := 13) hx hb hts iX9 hown hK hP 0 rfl rfl 0 (by decide) f7 (fun _ h9 => h9) rfl dX9_expire_5 ?_
      refine lv_sipush (v := 1882) hx hb dX9_expire_8 (by decide) ?_
      refine va_lald hx hb hK hP 1 1 rfl rfl (show ¬ ((1882 : Int32) < 0 ∨ 1888 ≤ (1882 : Int32).toNatClampNeg) by decide) dX9_expire_11 ?_
      refine W.lcmp hx hb dX9_expire_12 ?_
      refine lv_if_ge (tgt := 83) hx hb dX9_expire_13 (by decide) (fun c_4 => ?_) (fun c_4 => ?_)
      · replace hE := it_t hE c_4
        have hE := Option.some.inj hE
        exact ev hx hb hr hlocks hK hP hD hS (by rw [hE]) dX9_expire_83
      · replace hE := it_f hE c_4
        refine lv_aload_n hx hb dX9_expire_16 rfl (lv_at hl 0 rfl) ?_
        refine va_get (D := D) (ci := 9) (v := .ref (aM 1)) (C := RX9) (T := TX9) (N := 13) hx hb hts iX9 hown hK hP 0 rfl rfl 0 (by decide) f7 (fun _ h9 => h9) rfl dX9_expire_17 ?_
        refine lv_sipush (v := 1531) hx hb dX9_expire_20 (by decide) ?_
        refine lv_iload_n hx hb dX9_expire_23 rfl (lv_at hl 1 rfl) ?_
        refine lv_iadd hx hb dX9_expire_24 ?_
        obtain ⟨g_5, hE⟩ := gi_el hE
        refine va_lald hx hb hK hP 1 1 rfl rfl g_5 dX9_expire_25 ?_
        refine lv_lconst (v := 0) hx hb dX9_expire_26 (by decide) ?_
        refine W.lcmp hx hb dX9_expire_27 ?_
        refine lv_if_ne (tgt := 77) hx hb dX9_expire_28 (by decide) (fun c_6 => ?_) (fun c_6 => ?_)
        · replace hE := it_f hE c_6
          exact h77 x1 nM (f_X9_expire_L2 imM n) ih _ _ _ hE hP hD hS (lv_sub hl [0, 1] rfl)
        · replace hE := it_t hE c_6
          refine lv_aload_n hx hb dX9_expire_31 rfl (lv_at hl 0 rfl) ?_
          refine va_get (D := D) (ci := 9) (v := .ref (aM 1)) (C := RX9) (T := TX9) (N := 13) hx hb hts iX9 hown hK hP 0 rfl rfl 0 (by decide) f7 (fun _ h9 => h9) rfl dX9_expire_32 ?_
          refine lv_sipush (v := 1131) hx hb dX9_expire_35 (by decide) ?_
          refine lv_iload_n hx hb dX9_expire_38 rfl (lv_at hl 1 rfl) ?_
          refine lv_iadd hx hb dX9_expire_39 ?_
          refine lv_dup2_11 hx hb dX9_expire_40 rfl rfl ?_
          obtain ⟨g_7, hE⟩ := gi_el hE
          refine va_lald hx hb hK hP 1 1 rfl rfl g_7 dX9_expire_41 ?_
          refine lv_lconst (v := 1) hx hb dX9_expire_42 (by decide) ?_
          refine lv_lsub hx hb dX9_expire_43 ?_
          obtain ⟨g_9, hE⟩ := gi_el hE
          obtain ⟨nM_8, e_nM_8, hE⟩ := lt_el hE
          refine s_la (ws1 := (W_M cy aM imM nM_8)) hx hb hK hP hD hS 1 rfl g_9 (by rw [e_nM_8]; rfl) dX9_expire_44 (fun H locs hP hD hS => ?_)
          refine lv_aload_n hx hb dX9_expire_45 rfl (lv_at hl 0 rfl) ?_
          refine va_get (D := D) (ci := 9) (v := .ref (aM 1)) (C := RX9) (T := TX9) (N := 13) hx hb hts iX9 hown hK hP 0 rfl rfl 0 (by decide) f7 (fun _ h9 => h9) rfl dX9_expire_46 ?_
          refine lv_sipush (v := 1531) hx hb dX9_expire_49 (by decide) ?_
          refine lv_iload_n hx hb dX9_expire_52 rfl (lv_at hl 1 rfl) ?_
          refine lv_iadd hx hb dX9_expire_53 ?_
          refine lv_aload_n hx hb dX9_expire_54 rfl (lv_at hl 0 rfl) ?_
          refine va_get (D := D) (ci := 9) (v := .ref (aM 1)) (C := RX9) (T := TX9) (N := 13) hx hb hts iX9 hown hK hP 0 rfl rfl 0 (by decide) f7 (fun _ h9 => h9) rfl dX9_expire_55 ?_
          refine lv_sipush (v := 1131) hx hb dX9_expire_58 (by decide) ?_
          refine lv_iload_n hx hb dX9_expire_61 rfl (lv_at hl 1 rfl) ?_
          refine lv_iadd hx hb dX9_expire_62 ?_
          obtain ⟨g_10, hE⟩ := gi_el hE
          refine va_lald hx hb hK hP 1 1 rfl rfl g_10 dX9_expire_63 ?_
          refine lv_lconst (v := 0) hx hb dX9_expire_64 (by decide) ?_
          refine W.lcmp hx hb dX9_expire_65 ?_
          refine lv_if_ne (tgt := 75) hx hb dX9_expire_66 (by decide) (fun c_11 => ?_) (fun c_11 => ?_)
          · replace hE := it_f hE c_11
            refine lv_lconst (v := 0) hx hb dX9_expire_75 (by decide) ?_
            exact h76 x1 (0 : Int64) ((1531 : Int32) + x1) nM_8 (f_X9_expire_L2 imM n) ih _ _ _ hE hP hD hS (lv_sub hl [0, 1] rfl)
          · replace hE := it_t hE c_11
            refine lv_ldc2 hx hb hown k31 dX9_expire_69 ?_
            refine lv_goto (tgt := 76) hx hb dX9_expire_72 (by decide) ?_
            exact h76 x1 (2 : Int64) ((1531 : Int32) + x1) nM_8 (f_X9_expire_L2 imM n) ih _ _ _ hE hP hD hS (lv_sub hl [0, 1] rfl)
  unfold f_X9_expire at hE
  refine lv_iconst (v := 0) hx hb dX9_expire_0 (by decide) ?_
  refine lv_istore_n (lv' := [(1, .int (0 : Int32)), (0, .ref (aM 0))]) hx hb dX9_expire_1 rfl hl (by decide) rfl (fun ls hl => ?_)
  exact h2 fuel (0 : Int32) inM _ _ _ hE hP hD hS (lv_sub hl [1, 0] rfl)
abbrev rm_X9_hour : Room := { frames := 5, cells := 0, slots := 0, locals := 124 }
set_option maxHeartbeats 40000000 in
set_option maxRecDepth 100000 in
theorem c_X9_hour (l : Launch) (D : va_G) (cy : Nat → Nat) (aM : Nat → Nat) (imM : Mem) (inM : MemL) (mM' : Mem) (nM' : MemL) (hE : f_X9_hour imM inM = some (mM', nM')) : CV l yX9_hour wsX9_hour rm_X9_hour D cy [.ref (aM 0)] (W_M cy aM imM inM) 0 0 (W_M cy aM mM' nM') := by
  refine CQ_of (cc := cX9_hour) (maxL := 3) (ret := none) (by decide) rfl (Nat.le_of_ble_eq_true rfl) (fun p e s m args below meth c A ls hx hb hr hml hlocks hnm hown hts hA hK hN hP hD hS hl => ?_)
  have hown : s.vm.findClass RX9 = some m.cls := hown
  have hl : lv_has ls 3 [(0, .ref (aM 0))] := hl
  have hC : CallFix p m c cX9_hour 3 s args wsX9_hour RX9 := ⟨hx, hb, hml, hown, hts⟩
  have f7 : (Cond.fieldLink RX9 7 "IcePlantModel" "w" "[J").before args s = true := hts _ (mC qf_X9_7)
  have iX9 : ∀ w ∈ wsX90, w ∈ wsX9_hour := fun w h => mC (iA_X9 w h)
  have h34 : ∀ (x1 : Int32) (mM : Mem), ∀ (k18 : (Int32 → MemL → Option (Mem × MemL))), (∀ (x1 : Int32) (nM : MemL) (H : Heap) (locs : List Loc) (ls : Array Slot), k18 x1 nM = some (mM', nM') → va_P D vwCl (W_M cy aM mM nM) H → va_D A (W_M cy aM mM nM) → va_S A s.heap H locs → lv_has ls 3 [(0, .ref (aM 0)), (1, .int x1)] → W p l e rm_X9_hour s m args below meth c H locs 0 0 (MQ below (QV D cy (W_M cy aM mM' nM') A) args s 0 0 A) (F0 m 18 ls [])) → ∀ (n : Nat), ∀ (x2 : Int32) (nM : MemL) (H : Heap) (locs : List Loc) (ls : Array Slot), f_X9_hour_L34 k18 x1 mM n x2 nM = some (mM', nM') → va_P D vwCl (W_M cy aM mM nM) H → va_D A (W_M cy aM mM nM) → va_S A s.heap H locs → lv_has ls 3 [(0, .ref (aM 0)), (1, .int x1), (2, .int x2)] → W p l e rm_X9_hour s m args below meth c H locs 0 0 (MQ below (QV D cy (W_M cy aM mM' nM') A) args s 0 0 A) (F0 m 34 ls []) := by
    intro x1 mM k18 hk18 n
    induction n with
    | zero => intro x2 nM H locs ls hE; exact absurd hE (fun h9 => nomatch h9)
    | succ n ih =>
      intro x2 nM H locs ls hE hP hD hS hl
      replace hE : (gi ((47 : Int32) + x1) 1888 ((if 0 ≤ (lg_cmp (x2.toInt64) (nM 0 ((47 : Int32) + x1).toNatClampNeg)) then lt' (x1 + (1 : Int32)) fun x1_3 => k18 x1_3 nM else gi (((357 : Int32) + ((30 : Int32) * x1)) + x2) 1888 (gi (((357 : Int32) + ((30 : Int32) * x1)) + x2) 1888 (lt' (wrL nM 0 (vp_updL (nM 0) (((357 : Int32) + ((30 : Int32) * x1)) + x2).toNatClampNeg ((nM 0 (((357 : Int32) + ((30 : Int32) * x1)) + x2).toNatClampNeg) + (1 : Int64)))) fun nM_5 => lt' (x2 + (1 : Int32)) fun x2_7 => (f_X9_hour_L34 k18 x1 mM n) x2_7 nM_5))))) = some (mM', nM') := hE
      refine lv_iload_n hx hb dX9_hour_34 rfl (lv_at hl 2 rfl) ?_
      refine lv_i2l hx hb dX9_hour_35 rfl ?_
      refine lv_aload_n hx hb dX9_hour_36 rfl (lv_at hl 0 rfl) ?_
      refine va_get (D := D) (ci := 9) (v := .ref (aM 1)) (C := RX9) (T := TX9) (N := 13) hx hb hts iX9 hown hK hP 0 rfl rfl 0 (by decide) f7 (fun _ h9 => h9) rfl dX9_hour_37 ?_
      refine lv_bipush (v := 47) hx hb dX9_hour_40 (by decide) ?_
      refine lv_iload_n hx hb dX9_hour_42 rfl (lv_at hl 1 rfl) ?_
      refine lv_iadd hx hb dX9_hour_43 ?_
      obtain ⟨g_1, hE⟩ := gi_el hE
      refine va_lald hx hb hK hP 1 1 rfl rfl g_1 dX9_hour_44 ?_
      refine W.lcmp hx hb dX9_hour_45 ?_
      refine lv_if_ge (tgt := 74) hx hb dX9_hour_46 (by decide) (fun c_2 => ?_) (fun c_2 => ?_)
      · replace hE := it_t hE c_2
        obtain ⟨x1_3, e_x1_3, hE⟩ := lt_el hE
        refine lv_iinc (v := x1_3) (lv' := [(1, .int x1_3), (0, .ref (aM 0)), (2, .int x2)]) hx hb dX9_hour_74 hl (k := 1) rfl (by rw [e_x1_3]; rfl) (by decide) rfl (fun ls hl => ?_)
        refine lv_goto (tgt := 18) hx hb dX9_hour_77 (by decide) ?_
        exact hk18 x1_3 nM _ _ _ hE hP hD hS (lv_sub hl [1, 0] rfl)
      · replace hE := it_f hE c_2
        refine lv_aload_n hx hb dX9_hour_49 rfl (lv_at hl 0 rfl) ?_
        refine va_get (D := D) (ci := 9) (v := .ref (aM 1)) (C := RX9) (T := TX9) (N := 13) hx hb hts iX9 hown hK hP 0 rfl rfl 0 (by decide) f7 (fun _ h9 => h9) rfl dX9_hour_50 ?_
        refine lv_sipush (v := 357) hx hb dX9_hour_53 (by decide) ?_
        refine lv_bipush (v := 30) hx hb dX9_hour_56 (by decide) ?_
        refine lv_iload_n hx hb dX9_hour_58 rfl (lv_at hl 1 rfl) ?_
        refine lv_imul hx hb dX9_hour_59 ?_
        refine lv_iadd hx hb dX9_hour_60 ?_
        refine lv_iload_n hx hb dX9_hour_61 rfl (lv_at hl 2 rfl) ?_
        refine lv_iadd hx hb dX9_hour_62 ?_
        refine lv_dup2_11 hx hb dX9_hour_63 rfl rfl ?_
        obtain ⟨g_4, hE⟩ := gi_el hE
        refine va_lald hx hb hK hP 1 1 rfl rfl g_4 dX9_hour_64 ?_
        refine lv_lconst (v := 1) hx hb dX9_hour_65 (by decide) ?_
        refine lv_ladd hx hb dX9_hour_66 ?_
        obtain ⟨g_6, hE⟩ := gi_el hE
        obtain ⟨nM_5, e_nM_5, hE⟩ := lt_el hE
        refine s_la (ws1 := (W_M cy aM mM nM_5)) hx hb hK hP hD hS 1 rfl g_6 (by rw [e_nM_5]; rfl) dX9_hour_67 (fun H locs hP hD hS => ?_)
        obtain ⟨x2_7, e_x2_7, hE⟩ := lt_el hE
        refine lv_iinc (v := x2_7) (lv' := [(2, .int x2_7), (0, .ref (aM 0)), (1, .int x1)]) hx hb dX9_hour_68 hl (k := 2) rfl (by rw [e_x2_7]; rfl) (by decide) rfl (fun ls hl => ?_)
        refine lv_goto (tgt := 34) hx hb dX9_hour_71 (by decide) ?_
        exact ih x2_7 nM_5 _ _ _ hE hP hD hS (lv_sub hl [1, 2, 0] rfl)
  have h18 : ∀ (mM : Mem), ∀ (n : Nat), ∀ (x1 : Int32) (nM : MemL) (H : Heap) (locs : List Loc) (ls : Array Slot), f_X9_hour_L18 mM n x1 nM = some (mM', nM') → va_P D vwCl (W_M cy aM mM nM) H → va_D A (W_M cy aM mM nM) → va_S A s.heap H locs → lv_has ls 3 [(0, .ref (aM 0)), (1, .int x1)] → W p l e rm_X9_hour s m args below meth c H locs 0 0 (MQ below (QV D cy (W_M cy aM mM' nM') A) args s 0 0 A) (F0 m 18 ls []) := by
    intro mM n
    induction n with
    | zero => intro x1 nM H locs ls hE; exact absurd hE (fun h9 => nomatch h9)
    | succ n ih =>
      intro x1 nM H locs ls hE hP hD hS hl
      replace hE : ((if 0 ≤ (lg_cmp (x1.toInt64) (nM 0 (1880 : Int32).toNatClampNeg)) then lt' (wrL nM 0 (vp_updL (nM 0) (1875 : Int32).toNatClampNeg ((nM 0 (1875 : Int32).toNatClampNeg) + (1 : Int64)))) fun nM_9 => some (mM, nM_9) else f_X9_hour_L34 (f_X9_hour_L18 mM n) x1 mM fuel (0 : Int32) nM)) = some (mM', nM') := hE
      refine lv_iload_n hx hb dX9_hour_18 rfl (lv_at hl 1 rfl) ?_
      refine lv_i2l hx hb dX9_hour_19 rfl ?_
      refine lv_aload_n hx hb dX9_hour_20 rfl (lv_at hl 0 rfl) ?_
      refine va_get (D := D) (ci := 9) (v := .ref (aM 1)) (C := RX9) (T := TX9) (N := 13) hx hb hts iX9 hown hK hP 0 rfl rfl 0 (by decide) f7 (fun _ h9 => h9) rfl dX9_hour_21 ?_
      refine lv_sipush (v := 1880) hx hb dX9_hour_24 (by decide) ?_
      refine va_lald hx hb hK hP 1 1 rfl rfl (show ¬ ((1880 : Int32) < 0 ∨ 1888 ≤ (1880 : Int32).toNatClampNeg) by decide) dX9_hour_27 ?_
      refine W.lcmp hx hb dX9_hour_28 ?_
      refine lv_if_ge (tgt := 80) hx hb dX9_hour_29 (by decide) (fun c_8 => ?_) (fun c_8 => ?_)
      · replace hE := it_t hE c_8
        refine lv_aload_n hx hb dX9_hour_80 rfl (lv_at hl 0 rfl) ?_
        refine va_get (D := D) (ci := 9) (v := .ref (aM 1)) (C := RX9) (T := TX9) (N := 13) hx hb hts iX9 hown hK hP 0 rfl rfl 0 (by decide) f7 (fun _ h9 => h9) rfl dX9_hour_81 ?_
        refine lv_sipush (v := 1875) hx hb dX9_hour_84 (by decide) ?_
        refine lv_dup2_11 hx hb dX9_hour_87 rfl rfl ?_
        refine va_lald hx hb hK hP 1 1 rfl rfl (show ¬ ((1875 : Int32) < 0 ∨ 1888 ≤ (1875 : Int32).toNatClampNeg) by decide) dX9_hour_88 ?_
        refine lv_lconst (v := 1) hx hb dX9_hour_89 (by decide) ?_
        refine lv_ladd hx hb dX9_hour_90 ?_
        obtain ⟨nM_9, e_nM_9, hE⟩ := lt_el hE
        refine s_la (ws1 := (W_M cy aM mM nM_9)) hx hb hK hP hD hS 1 rfl (show ¬ ((1875 : Int32) < 0 ∨ 1888 ≤ (1875 : Int32).toNatClampNeg) by decide) (by rw [e_nM_9]; rfl) dX9_hour_91 (fun H locs hP hD hS => ?_)
        have hE := Option.some.inj hE
        obtain ⟨q0, q1⟩ := Prod.mk.inj hE
        exact ev hx hb hr hlocks hK hP hD hS (by rw [q0, q1]) dX9_hour_92
      · replace hE := it_f hE c_8
        refine lv_iconst (v := 0) hx hb dX9_hour_32 (by decide) ?_
        refine lv_istore_n (lv' := [(2, .int (0 : Int32)), (0, .ref (aM 0)), (1, .int x1)]) hx hb dX9_hour_33 rfl hl (by decide) rfl (fun ls hl => ?_)
        exact h34 x1 mM (f_X9_hour_L18 mM n) ih fuel (0 : Int32) nM _ _ _ hE hP hD hS (lv_sub hl [1, 2, 0] rfl)
  unfold f_X9_hour at hE
  refine lv_aload_n hx hb dX9_hour_0 rfl (lv_at hl 0 rfl) ?_
  obtain ⟨nM_10, hc_11, hE⟩ := bd1_el hE
  refine kv (X := []) (Y := []) (ws1 := (W_M cy aM imM nM_10)) (rV (X := []) (Y := []) (As := []) (rest := []) hC (c_X9_melt l D cy aM imM inM nM_10 hc_11) (cwV 0 hts gX9_hour_X9_melt rfl rfl rfl cd_X9_melt ⟨Nat.le_of_ble_eq_true rfl, Nat.le_of_ble_eq_true rfl⟩) hK hN hP hD hS hA rfl 0 9 rfl rfl rfl hl.1 rfl (lv_room (Nat.le_of_ble_eq_true rfl)) dX9_hour_1 ⟨Nat.le_of_ble_eq_true rfl, Nat.le_of_ble_eq_true rfl⟩) hP hD hS hA rfl rfl rfl (fun H locs hP hD hS => ?_)
  refine lv_aload_n hx hb dX9_hour_4 rfl (lv_at hl 0 rfl) ?_
  obtain ⟨nM_12, hc_13, hE⟩ := bd1_el hE
  refine kv (X := []) (Y := []) (ws1 := (W_M cy aM imM nM_12)) (rV (X := []) (Y := []) (As := []) (rest := []) hC (c_X9_produce l D cy aM imM nM_10 nM_12 hc_13) (cwV 0 hts gX9_hour_X9_produce rfl rfl rfl cd_X9_produce ⟨Nat.le_of_ble_eq_true rfl, Nat.le_of_ble_eq_true rfl⟩) hK hN hP hD hS hA rfl 0 9 rfl rfl rfl hl.1 rfl (lv_room (Nat.le_of_ble_eq_true rfl)) dX9_hour_5 ⟨Nat.le_of_ble_eq_true rfl, Nat.le_of_ble_eq_true rfl⟩) hP hD hS hA rfl rfl rfl (fun H locs hP hD hS => ?_)
  refine lv_aload_n hx hb dX9_hour_8 rfl (lv_at hl 0 rfl) ?_
  obtain ⟨mM_14, nM_15, hc_16, hE⟩ := bd2_el hE
  refine kv (X := []) (Y := []) (ws1 := (W_M cy aM mM_14 nM_15)) (rV (X := []) (Y := []) (As := []) (rest := []) hC (c_X9_deliver l D cy aM imM nM_12 mM_14 nM_15 hc_16) (cwV 0 hts gX9_hour_X9_deliver rfl rfl rfl cd_X9_deliver ⟨Nat.le_of_ble_eq_true rfl, Nat.le_of_ble_eq_true rfl⟩) hK hN hP hD hS hA rfl 0 9 rfl rfl rfl hl.1 rfl (lv_room (Nat.le_of_ble_eq_true rfl)) dX9_hour_9 ⟨Nat.le_of_ble_eq_true rfl, Nat.le_of_ble_eq_true rfl⟩) hP hD hS hA rfl rfl rfl (fun H locs hP hD hS => ?_)
  refine lv_aload_n hx hb dX9_hour_12 rfl (lv_at hl 0 rfl) ?_
  obtain ⟨nM_17, hc_18, hE⟩ := bd1_el hE
  refine kv (X := []) (Y := []) (ws1 := (W_M cy aM mM_14 nM_17)) (rV (X := []) (Y := []) (As := []) (rest := []) hC (c_X9_expire l D cy aM mM_14 nM_15 nM_17 hc_18) (cwV 0 hts gX9_hour_X9_expire rfl rfl rfl cd_X9_expire ⟨Nat.le_of_ble_eq_true rfl, Nat.le_of_ble_eq_true rfl⟩) hK hN hP hD hS hA rfl 0 9 rfl rfl rfl hl.1 rfl (lv_room (Nat.le_of_ble_eq_true rfl)) dX9_hour_13 ⟨Nat.le_of_ble_eq_true rfl, Nat.le_of_ble_eq_true rfl⟩) hP hD hS hA rfl rfl rfl (fun H locs hP hD hS => ?_)
  refine lv_iconst (v := 0) hx hb dX9_hour_16 (by decide) ?_
  refine lv_istore_n (lv' := [(1, .int (0 : Int32)), (0, .ref (aM 0))]) hx hb dX9_hour_17 rfl hl (by decide) rfl (fun ls hl => ?_)
  exact h18 mM_14 fuel (0 : Int32) nM_17 _ _ _ hE hP hD hS (lv_sub hl [1, 0] rfl)
abbrev rm_X9_passThrows : Room := { frames := 1, cells := 0, slots := 0, locals := 25 }
set_option maxHeartbeats 40000000 in
set_option maxRecDepth 100000 in
theorem c_X9_passThrows (l : Launch) (D : va_G) (cy : Nat → Nat) (aM : Nat → Nat) (x1 : Int32) (imM : Mem) (inM : MemL) (r' : Int32) (hE : f_X9_passThrows x1 imM inM = some r') : CI l yX9_passThrows wsX9_passThrows rm_X9_passThrows D cy [.ref (aM 0), .int x1] (W_M cy aM imM inM) 0 0 r' (W_M cy aM imM inM) := by
  refine CQ_of (cc := cX9_passThrows) (maxL := 2) (ret := (some .int)) (by decide) rfl (Nat.le_of_ble_eq_true rfl) (fun p e s m args below meth c A ls hx hb hr hml hlocks hnm hown hts hA hK hN hP hD hS hl => ?_)
  have hown : s.vm.findClass RX9 = some m.cls := hown
  have hl : lv_has ls 2 [(0, .ref (aM 0)), (1, .int x1)] := hl
  have hC : CallFix p m c cX9_passThrows 2 s args wsX9_passThrows RX9 := ⟨hx, hb, hml, hown, hts⟩
  have f7 : (Cond.fieldLink RX9 7 "IcePlantModel" "w" "[J").before args s = true := hts _ (mC qf_X9_7)
  have iX9 : ∀ w ∈ wsX90, w ∈ wsX9_passThrows := fun w h => mC (iA_X9 w h)
  have k181 : (Cond.constantLong RX9 181 (48)).before args s = true := hts _ (mC qk_X9_181)
  have k183 : (Cond.constantLong RX9 183 (10000)).before args s = true := hts _ (mC qk_X9_183)
  unfold f_X9_passThrows at hE
  refine lv_iload_n hx hb dX9_passThrows_0 rfl (lv_at hl 1 rfl) ?_
  refine lv_i2l hx hb dX9_passThrows_1 rfl ?_
  refine lv_lconst (v := 1) hx hb dX9_passThrows_2 (by decide) ?_
  refine lv_ldc2 hx hb hown k181 dX9_passThrows_3 ?_
  obtain ⟨r_1, hc_2, hE⟩ := bd1_el hE
  refine ki (X := []) (Y := (W_M cy aM imM inM)) (ws1 := (W_M cy aM imM inM)) (rS (X := []) (Y := (W_M cy aM imM inM)) (As := [.long (x1.toInt64), .long (1 : Int64), .long (48 : Int64)]) (rest := []) hC (c_X9_in l D cy (x1.toInt64) (1 : Int64) (48 : Int64) r_1 hc_2) (cwS 3 hts gX9_passThrows_X9_in rfl rfl rfl cd_X9_in ⟨Nat.le_of_ble_eq_true rfl, Nat.le_of_ble_eq_true rfl⟩) hK hN hP hD hS hA rfl rfl hl.1 rfl (lv_room (Nat.le_of_ble_eq_true rfl)) dX9_passThrows_6 ⟨Nat.le_of_ble_eq_true rfl, Nat.le_of_ble_eq_true rfl⟩) hP hD hS hA rfl rfl rfl (fun H locs hP hD hS => ?_)
  refine lv_if_ne (tgt := 16) hx hb dX9_passThrows_9 (by decide) (fun c_3 => ?_) (fun c_3 => ?_)
  · replace hE := it_f hE c_3
    refine lv_aload_n hx hb dX9_passThrows_16 rfl (lv_at hl 0 rfl) ?_
    refine va_get (D := D) (ci := 9) (v := .ref (aM 1)) (C := RX9) (T := TX9) (N := 13) hx hb hts iX9 hown hK hP 0 rfl rfl 0 (by decide) f7 (fun _ h9 => h9) rfl dX9_passThrows_17 ?_
    refine lv_sipush (v := 1875) hx hb dX9_passThrows_20 (by decide) ?_
    refine va_lald hx hb hK hP 1 1 rfl rfl (show ¬ ((1875 : Int32) < 0 ∨ 1888 ≤ (1875 : Int32).toNatClampNeg) by decide) dX9_passThrows_23 ?_
    refine lv_iload_n hx hb dX9_passThrows_24 rfl (lv_at hl 1 rfl) ?_
    refine lv_i2l hx hb dX9_passThrows_25 rfl ?_
    refine lv_ladd hx hb dX9_passThrows_26 ?_
    refine lv_ldc2 hx hb hown k183 dX9_passThrows_27 ?_
    refine W.lcmp hx hb dX9_passThrows_30 ?_
    refine lv_if_le (tgt := 38) hx hb dX9_passThrows_31 (by decide) (fun c_4 => ?_) (fun c_4 => ?_)
    · replace hE := it_t hE c_4
      refine lv_iconst (v := 0) hx hb dX9_passThrows_38 (by decide) ?_
      have hE := Option.some.inj hE
      exact ei hx hb hr hlocks hK hP hD hS hE rfl dX9_passThrows_39
    · replace hE := it_f hE c_4
      refine lv_iconst (v := 2) hx hb dX9_passThrows_34 (by decide) ?_
      refine lv_goto (tgt := 39) hx hb dX9_passThrows_35 (by decide) ?_
      have hE := Option.some.inj hE
      exact ei hx hb hr hlocks hK hP hD hS hE rfl dX9_passThrows_39
  · replace hE := it_t hE c_3
    refine lv_iconst (v := 1) hx hb dX9_passThrows_12 (by decide) ?_
    refine lv_goto (tgt := 39) hx hb dX9_passThrows_13 (by decide) ?_
    have hE := Option.some.inj hE
    exact ei hx hb hr hlocks hK hP hD hS hE rfl dX9_passThrows_39
