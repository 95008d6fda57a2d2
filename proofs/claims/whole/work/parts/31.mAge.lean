abbrev rm_X8_meanAge : Room := { frames := 2, cells := 0, slots := 0, locals := 47 }
set_option maxHeartbeats 40000000 in
set_option maxRecDepth 100000 in
theorem c_X8_meanAge (l : Launch) (D : va_G) (cy : Nat → Nat) (aI aT adP adS adB adO adR adA aP aS aB aO aR aA aH : Nat → Nat) (ah : Nat → Nat → Nat → Nat) (imT : Mem) (imdP : Mem) (indP : MemL) (imdS : Mem) (imdB : Mem) (imdO : Mem) (imdR : Mem) (imdA : Mem) (indA : MemL) (imP : Mem) (inP : MemL) (imS : Mem) (imB : Mem) (imO : Mem) (imR : Mem) (imA : Mem) (inA : MemL) (imH : Mem) (ihs : (Nat → PSt)) (r' : UInt64) (hE : f_X8_meanAge imT imdP indP imdS imdB imdO imdR imdA indA imP inP imS imB imO imR imA inA imH ihs = some r') : CD l yX8_meanAge wsX8_meanAge rm_X8_meanAge D cy [.ref (aI 0)] (W_All cy aI aT adP adS adB adO adR adA aP aS aB aO aR aA aH ah imT imdP indP imdS imdB imdO imdR imdA indA imP inP imS imB imO imR imA inA imH ihs) 0 0 r' (W_All cy aI aT adP adS adB adO adR adA aP aS aB aO aR aA aH ah imT imdP indP imdS imdB imdO imdR imdA indA imP inP imS imB imO imR imA inA imH ihs) := by
  refine CQ_of (cc := cX8_meanAge) (maxL := 2) (ret := (some .double)) (by decide) rfl (Nat.le_of_ble_eq_true rfl) (fun p e s m args below meth c A ls hx hb hr hml hlocks hnm hown hts hA hK hN hP hD hS hl => ?_)
  have hown : s.vm.findClass RX8 = some m.cls := hown
  have hl : lv_has ls 2 [(0, .ref (aI 0))] := hl
  have hC : CallFix p m c cX8_meanAge 2 s args wsX8_meanAge RX8 := ⟨hx, hb, hml, hown, hts⟩
  have f10 : (Cond.fieldLink RX8 10 "IcePlant" "now" "LIcePlant$Plant;").before args s = true := hts _ (mC qf_X8_10)
  have f43 : (Cond.fieldLink RX8 43 "IcePlant$Plant" "store" "LIcePlant$Store;").before args s = true := hts _ (mC qf_X8_43)
  have iX4 : ∀ w ∈ wsX40, w ∈ wsX8_meanAge := fun w h => mC (iA_X4 w h)
  have iX8 : ∀ w ∈ wsX80, w ∈ wsX8_meanAge := fun w h => mC (iA_X8 w h)
  have h33 : ∀ (t0 : UInt64), ∀  (H : Heap) (locs : List Loc) (ls : Array Slot), f_X8_meanAge_b33 t0 imT imdP indP imdS imdB imdO imdR imdA indA imP inP imS imB imO imR imA inA imH ihs = some r' → va_P D vwCl (W_All cy aI aT adP adS adB adO adR adA aP aS aB aO aR aA aH ah imT imdP indP imdS imdB imdO imdR imdA indA imP inP imS imB imO imR imA inA imH ihs) H → va_D A (W_All cy aI aT adP adS adB adO adR adA aP aS aB aO aR aA aH ah imT imdP indP imdS imdB imdO imdR imdA indA imP inP imS imB imO imR imA inA imH ihs) → va_S A s.heap H locs → lv_has ls 2 [] → W p l e rm_X8_meanAge s m args below meth c H locs 0 0 (MQ below (QD D cy r' (W_All cy aI aT adP adS adB adO adR adA aP aS aB aO aR aA aH ah imT imdP indP imdS imdB imdO imdR imdA indA imP inP imS imB imO imR imA inA imH ihs) A) args s 0 0 A) (F0 m 33 ls [.double t0]) := by
    intro t0 H locs ls hE hP hD hS hl
    replace hE : (some t0) = some r' := hE
    have hE := Option.some.inj hE
    exact ed hx hb hr hlocks hK hP hD hS hE rfl dX8_meanAge_33
  unfold f_X8_meanAge at hE
  refine lv_aload_n hx hb dX8_meanAge_0 rfl (lv_at hl 0 rfl) ?_
  refine va_get (D := D) (ci := 8) (v := .ref (aP 0)) (C := RX8) (T := TX8) (N := 4) hx hb hts iX8 hown hK hP 0 rfl rfl 0 (by decide) f10 (fun _ h9 => h9) rfl dX8_meanAge_1 ?_
  refine va_get (D := D) (ci := 4) (v := .ref (aS 0)) (C := RX4) (T := TX4) (N := 13) hx hb hts iX4 hown hK hP 40 rfl rfl 2 (by decide) f43 (fun _ h9 => h9) rfl dX8_meanAge_4 ?_
  obtain ⟨r_1, hc_2, hE⟩ := bd1_el hE
  refine ki (X := ((W_I aI aP adP aH aT) ++ ((W_T cy aT imT) ++ ((W_P cy adP adS adB adO adR adA imdP indP) ++ ((W_S cy adS imdS) ++ ((W_B cy adB imdB) ++ ((W_O cy adO imdO) ++ ((W_R cy adR imdR) ++ ((W_A cy adA imdA indA) ++ (W_P cy aP aS aB aO aR aA imP inP)))))))))) (Y := ((W_B cy aB imB) ++ ((W_O cy aO imO) ++ ((W_R cy aR imR) ++ ((W_A cy aA imA inA) ++ ((W_H cy aH ah imH) ++ (W_HS cy ah ihs))))))) (ws1 := (W_All cy aI aT adP adS adB adO adR adA aP aS aB aO aR aA aH ah imT imdP indP imdS imdB imdO imdR imdA indA imP inP imS imB imO imR imA inA imH ihs)) (rV (X := ((W_I aI aP adP aH aT) ++ ((W_T cy aT imT) ++ ((W_P cy adP adS adB adO adR adA imdP indP) ++ ((W_S cy adS imdS) ++ ((W_B cy adB imdB) ++ ((W_O cy adO imdO) ++ ((W_R cy adR imdR) ++ ((W_A cy adA imdA indA) ++ (W_P cy aP aS aB aO aR aA imP inP)))))))))) (Y := ((W_B cy aB imB) ++ ((W_O cy aO imO) ++ ((W_R cy aR imR) ++ ((W_A cy aA imA inA) ++ ((W_H cy aH ah imH) ++ (W_HS cy ah ihs))))))) (As := []) (rest := []) hC (c_X6_blocks l D cy aS imS r_1 hc_2) (cwV 0 hts gX8_meanAge_X6_blocks rfl rfl rfl cd_X6_blocks ⟨Nat.le_of_ble_eq_true rfl, Nat.le_of_ble_eq_true rfl⟩) hK hN hP hD hS hA rfl 0 6 rfl rfl rfl hl.1 rfl (lv_room (Nat.le_of_ble_eq_true rfl)) dX8_meanAge_7 ⟨Nat.le_of_ble_eq_true rfl, Nat.le_of_ble_eq_true rfl⟩) hP hD hS hA rfl rfl rfl (fun H locs hP hD hS => ?_)
  refine lv_istore_n (lv' := [(1, .int r_1), (0, .ref (aI 0))]) hx hb dX8_meanAge_10 rfl hl (by decide) rfl (fun ls hl => ?_)
  refine lv_iload_n hx hb dX8_meanAge_11 rfl (lv_at hl 0 rfl) ?_
  refine lv_if_le (tgt := 32) hx hb dX8_meanAge_12 (by decide) (fun c_3 => ?_) (fun c_3 => ?_)
  · replace hE := it_t hE c_3
    refine lv_dconst0 hx hb dX8_meanAge_32 ?_
    exact h33 (FP.dconst0) _ _ _ hE hP hD hS (lv_sub hl [] rfl)
  · replace hE := it_f hE c_3
    refine lv_aload_n hx hb dX8_meanAge_15 rfl (lv_at hl 1 rfl) ?_
    refine va_get (D := D) (ci := 8) (v := .ref (aP 0)) (C := RX8) (T := TX8) (N := 4) hx hb hts iX8 hown hK hP 0 rfl rfl 0 (by decide) f10 (fun _ h9 => h9) rfl dX8_meanAge_16 ?_
    refine va_get (D := D) (ci := 4) (v := .ref (aS 0)) (C := RX4) (T := TX4) (N := 13) hx hb hts iX4 hown hK hP 40 rfl rfl 2 (by decide) f43 (fun _ h9 => h9) rfl dX8_meanAge_19 ?_
    obtain ⟨r_4, hc_5, hE⟩ := bd1_el hE
    refine ki (X := ((W_I aI aP adP aH aT) ++ ((W_T cy aT imT) ++ ((W_P cy adP adS adB adO adR adA imdP indP) ++ ((W_S cy adS imdS) ++ ((W_B cy adB imdB) ++ ((W_O cy adO imdO) ++ ((W_R cy adR imdR) ++ ((W_A cy adA imdA indA) ++ (W_P cy aP aS aB aO aR aA imP inP)))))))))) (Y := ((W_B cy aB imB) ++ ((W_O cy aO imO) ++ ((W_R cy aR imR) ++ ((W_A cy aA imA inA) ++ ((W_H cy aH ah imH) ++ (W_HS cy ah ihs))))))) (ws1 := (W_All cy aI aT adP adS adB adO adR adA aP aS aB aO aR aA aH ah imT imdP indP imdS imdB imdO imdR imdA indA imP inP imS imB imO imR imA inA imH ihs)) (rV (X := ((W_I aI aP adP aH aT) ++ ((W_T cy aT imT) ++ ((W_P cy adP adS adB adO adR adA imdP indP) ++ ((W_S cy adS imdS) ++ ((W_B cy adB imdB) ++ ((W_O cy adO imdO) ++ ((W_R cy adR imdR) ++ ((W_A cy adA imdA indA) ++ (W_P cy aP aS aB aO aR aA imP inP)))))))))) (Y := ((W_B cy aB imB) ++ ((W_O cy aO imO) ++ ((W_R cy aR imR) ++ ((W_A cy aA imA inA) ++ ((W_H cy aH ah imH) ++ (W_HS cy ah ihs))))))) (As := []) (rest := []) hC (c_X6_sumOfAges l D cy aS imS r_4 hc_5) (cwV 0 hts gX8_meanAge_X6_sumOfAges rfl rfl rfl cd_X6_sumOfAges ⟨Nat.le_of_ble_eq_true rfl, Nat.le_of_ble_eq_true rfl⟩) hK hN hP hD hS hA rfl 0 6 rfl rfl rfl hl.1 rfl (lv_room (Nat.le_of_ble_eq_true rfl)) dX8_meanAge_22 ⟨Nat.le_of_ble_eq_true rfl, Nat.le_of_ble_eq_true rfl⟩) hP hD hS hA rfl rfl rfl (fun H locs hP hD hS => ?_)
    refine lv_i2d hx hb dX8_meanAge_25 ?_
    refine lv_iload_n hx hb dX8_meanAge_26 rfl (lv_at hl 0 rfl) ?_
    refine lv_i2d hx hb dX8_meanAge_27 ?_
    obtain ⟨g_6, hE⟩ := gn_el hE
    refine lv_ddiv hx hb dX8_meanAge_28 g_6 ?_
    refine lv_goto (tgt := 33) hx hb dX8_meanAge_29 (by decide) ?_
    exact h33 (FP.ddiv (FP.i2d r_4) (FP.i2d r_1)) _ _ _ hE hP hD hS (lv_sub hl [] rfl)
abbrev rm_X9_meanAge : Room := { frames := 1, cells := 0, slots := 0, locals := 22 }
set_option maxHeartbeats 40000000 in
set_option maxRecDepth 100000 in
theorem c_X9_meanAge (l : Launch) (D : va_G) (cy : Nat → Nat) (aM : Nat → Nat) (imM : Mem) (inM : MemL) (r' : UInt64) (mM' : Mem) (hE : f_X9_meanAge imM inM = some (r', mM')) : CD l yX9_meanAge wsX9_meanAge rm_X9_meanAge D cy [.ref (aM 0)] (W_M cy aM imM inM) 0 0 r' (W_M cy aM mM' inM) := by
  refine CQ_of (cc := cX9_meanAge) (maxL := 5) (ret := (some .double)) (by decide) rfl (Nat.le_of_ble_eq_true rfl) (fun p e s m args below meth c A ls hx hb hr hml hlocks hnm hown hts hA hK hN hP hD hS hl => ?_)
  have hown : s.vm.findClass RX9 = some m.cls := hown
  have hl : lv_has ls 5 [(0, .ref (aM 0))] := hl
  have hC : CallFix p m c cX9_meanAge 5 s args wsX9_meanAge RX9 := ⟨hx, hb, hml, hown, hts⟩
  have f7 : (Cond.fieldLink RX9 7 "IcePlantModel" "w" "[J").before args s = true := hts _ (mC qf_X9_7)
  have f43 : (Cond.fieldLink RX9 43 "IcePlantModel" "thrown" "I").before args s = true := hts _ (mC qf_X9_43)
  have iX9 : ∀ w ∈ wsX90, w ∈ wsX9_meanAge := fun w h => mC (iA_X9 w h)
  have h91 : ∀ (t0 : UInt64) (mM : Mem), ∀  (H : Heap) (locs : List Loc) (ls : Array Slot), f_X9_meanAge_b91 t0 mM inM = some (r', mM') → va_P D vwCl (W_M cy aM mM inM) H → va_D A (W_M cy aM mM inM) → va_S A s.heap H locs → lv_has ls 5 [] → W p l e rm_X9_meanAge s m args below meth c H locs 0 0 (MQ below (QD D cy r' (W_M cy aM mM' inM) A) args s 0 0 A) (F0 m 91 ls [.double t0]) := by
    intro t0 mM H locs ls hE hP hD hS hl
    replace hE : (some (t0, mM)) = some (r', mM') := hE
    have hE := Option.some.inj hE
    obtain ⟨q0, q1⟩ := Prod.mk.inj hE
    exact ed hx hb hr hlocks hK hP hD hS q0 (by rw [q1]) dX9_meanAge_91
  have h26 : ∀ (x3 : Int32) (mM : Mem), ∀ (k9 : (Int64 → Int32 → Option (UInt64 × Mem))), (∀ (x1 : Int64) (x3 : Int32) (H : Heap) (locs : List Loc) (ls : Array Slot), k9 x1 x3 = some (r', mM') → va_P D vwCl (W_M cy aM mM inM) H → va_D A (W_M cy aM mM inM) → va_S A s.heap H locs → lv_has ls 5 [(0, .ref (aM 0)), (1, .long x1), (3, .int x3)] → W p l e rm_X9_meanAge s m args below meth c H locs 0 0 (MQ below (QD D cy r' (W_M cy aM mM' inM) A) args s 0 0 A) (F0 m 9 ls [])) → ∀ (n : Nat), ∀ (x1 : Int64) (x4 : Int32) (H : Heap) (locs : List Loc) (ls : Array Slot), f_X9_meanAge_L26 k9 x3 mM inM n x1 x4 = some (r', mM') → va_P D vwCl (W_M cy aM mM inM) H → va_D A (W_M cy aM mM inM) → va_S A s.heap H locs → lv_has ls 5 [(0, .ref (aM 0)), (1, .long x1), (3, .int x3), (4, .int x4)] → W p l e rm_X9_meanAge s m args below meth c H locs 0 0 (MQ below (QD D cy r' (W_M cy aM mM' inM) A) args s 0 0 A) (F0 m 26 ls []) := by
    intro x3 mM k9 hk9 n
    induction n with
    | zero => intro x1 x4 H locs ls hE; exact absurd hE (fun h9 => nomatch h9)
    | succ n ih =>
      intro x1 x4 H locs ls hE hP hD hS hl
      replace hE : (gi ((47 : Int32) + x3) 1888 ((if 0 ≤ (lg_cmp (x4.toInt64) (inM 0 ((47 : Int32) + x3).toNatClampNeg)) then lt' (x3 + (1 : Int32)) fun x3_3 => k9 x1 x3_3 else gi (((357 : Int32) + ((30 : Int32) * x3)) + x4) 1888 (lt' (x1 + (inM 0 (((357 : Int32) + ((30 : Int32) * x3)) + x4).toNatClampNeg)) fun x1_5 => lt' (x4 + (1 : Int32)) fun x4_6 => (f_X9_meanAge_L26 k9 x3 mM inM n) x1_5 x4_6)))) = some (r', mM') := hE
      refine lv_iload hx hb dX9_meanAge_26 (lv_at hl 3 rfl) ?_
      refine lv_i2l hx hb dX9_meanAge_28 rfl ?_
      refine lv_aload_n hx hb dX9_meanAge_29 rfl (lv_at hl 0 rfl) ?_
      refine va_get (D := D) (ci := 9) (v := .ref (aM 1)) (C := RX9) (T := TX9) (N := 13) hx hb hts iX9 hown hK hP 0 rfl rfl 0 (by decide) f7 (fun _ h9 => h9) rfl dX9_meanAge_30 ?_
      refine lv_bipush (v := 47) hx hb dX9_meanAge_33 (by decide) ?_
      refine lv_iload_n hx hb dX9_meanAge_35 rfl (lv_at hl 2 rfl) ?_
      refine lv_iadd hx hb dX9_meanAge_36 ?_
      obtain ⟨g_1, hE⟩ := gi_el hE
      refine va_lald hx hb hK hP 1 1 rfl rfl g_1 dX9_meanAge_37 ?_
      refine W.lcmp hx hb dX9_meanAge_38 ?_
      refine lv_if_ge (tgt := 67) hx hb dX9_meanAge_39 (by decide) (fun c_2 => ?_) (fun c_2 => ?_)
      · replace hE := it_t hE c_2
        obtain ⟨x3_3, e_x3_3, hE⟩ := lt_el hE
        refine lv_iinc (v := x3_3) (lv' := [(3, .int x3_3), (0, .ref (aM 0)), (1, .long x1), (4, .int x4)]) hx hb dX9_meanAge_67 hl (k := 2) rfl (by rw [e_x3_3]; rfl) (by decide) rfl (fun ls hl => ?_)
        refine lv_goto (tgt := 9) hx hb dX9_meanAge_70 (by decide) ?_
        exact hk9 x1 x3_3 _ _ _ hE hP hD hS (lv_sub hl [1, 2, 0] rfl)
      · replace hE := it_f hE c_2
        refine lv_lload_n hx hb dX9_meanAge_42 rfl (lv_at hl 1 rfl) ?_
        refine lv_aload_n hx hb dX9_meanAge_43 rfl (lv_at hl 0 rfl) ?_
        refine va_get (D := D) (ci := 9) (v := .ref (aM 1)) (C := RX9) (T := TX9) (N := 13) hx hb hts iX9 hown hK hP 0 rfl rfl 0 (by decide) f7 (fun _ h9 => h9) rfl dX9_meanAge_44 ?_
        refine lv_sipush (v := 357) hx hb dX9_meanAge_47 (by decide) ?_
        refine lv_bipush (v := 30) hx hb dX9_meanAge_50 (by decide) ?_
        refine lv_iload_n hx hb dX9_meanAge_52 rfl (lv_at hl 2 rfl) ?_
        refine lv_imul hx hb dX9_meanAge_53 ?_
        refine lv_iadd hx hb dX9_meanAge_54 ?_
        refine lv_iload hx hb dX9_meanAge_55 (lv_at hl 3 rfl) ?_
        refine lv_iadd hx hb dX9_meanAge_57 ?_
        obtain ⟨g_4, hE⟩ := gi_el hE
        refine va_lald hx hb hK hP 1 1 rfl rfl g_4 dX9_meanAge_58 ?_
        refine lv_ladd hx hb dX9_meanAge_59 ?_
        obtain ⟨x1_5, e_x1_5, hE⟩ := lt_el hE
        refine s_nmL e_x1_5 ?_
        refine lv_lstore_n (lv' := [(1, .long x1_5), (0, .ref (aM 0)), (3, .int x3), (4, .int x4)]) hx hb dX9_meanAge_60 rfl hl (by decide) rfl (fun ls hl => ?_)
        obtain ⟨x4_6, e_x4_6, hE⟩ := lt_el hE
        refine lv_iinc (v := x4_6) (lv' := [(4, .int x4_6), (1, .long x1_5), (0, .ref (aM 0)), (3, .int x3)]) hx hb dX9_meanAge_61 hl (k := 3) rfl (by rw [e_x4_6]; rfl) (by decide) rfl (fun ls hl => ?_)
        refine lv_goto (tgt := 26) hx hb dX9_meanAge_64 (by decide) ?_
        exact ih x1_5 x4_6 _ _ _ hE hP hD hS (lv_sub hl [2, 1, 3, 0] rfl)
  have h9 : ∀ (mM : Mem), ∀ (n : Nat), ∀ (x1 : Int64) (x3 : Int32) (H : Heap) (locs : List Loc) (ls : Array Slot), f_X9_meanAge_L9 mM inM n x1 x3 = some (r', mM') → va_P D vwCl (W_M cy aM mM inM) H → va_D A (W_M cy aM mM inM) → va_S A s.heap H locs → lv_has ls 5 [(0, .ref (aM 0)), (1, .long x1), (3, .int x3)] → W p l e rm_X9_meanAge s m args below meth c H locs 0 0 (MQ below (QD D cy r' (W_M cy aM mM' inM) A) args s 0 0 A) (F0 m 9 ls []) := by
    intro mM n
    induction n with
    | zero => intro x1 x3 H locs ls hE; exact absurd hE (fun h9 => nomatch h9)
    | succ n ih =>
      intro x1 x3 H locs ls hE hP hD hS hl
      replace hE : ((if 0 ≤ (lg_cmp (x3.toInt64) (inM 0 (1880 : Int32).toNatClampNeg)) then bd1 (f_X9_blocks mM inM) fun r_8 => (if r_8 = 0 then f_X9_meanAge_b91 (FP.dconst0) mM inM else gn (FP.ddiv (FP.l2d x1) (FP.i2d r_8)) (f_X9_meanAge_b91 (FP.ddiv (FP.l2d x1) (FP.i2d r_8)) mM inM)) else f_X9_meanAge_L26 (f_X9_meanAge_L9 mM inM n) x3 mM inM fuel x1 (0 : Int32))) = some (r', mM') := hE
      refine lv_iload_n hx hb dX9_meanAge_9 rfl (lv_at hl 2 rfl) ?_
      refine lv_i2l hx hb dX9_meanAge_10 rfl ?_
      refine lv_aload_n hx hb dX9_meanAge_11 rfl (lv_at hl 0 rfl) ?_
      refine va_get (D := D) (ci := 9) (v := .ref (aM 1)) (C := RX9) (T := TX9) (N := 13) hx hb hts iX9 hown hK hP 0 rfl rfl 0 (by decide) f7 (fun _ h9 => h9) rfl dX9_meanAge_12 ?_
      refine lv_sipush (v := 1880) hx hb dX9_meanAge_15 (by decide) ?_
      refine va_lald hx hb hK hP 1 1 rfl rfl (show ¬ ((1880 : Int32) < 0 ∨ 1888 ≤ (1880 : Int32).toNatClampNeg) by decide) dX9_meanAge_18 ?_
      refine W.lcmp hx hb dX9_meanAge_19 ?_
      refine lv_if_ge (tgt := 73) hx hb dX9_meanAge_20 (by decide) (fun c_7 => ?_) (fun c_7 => ?_)
      · replace hE := it_t hE c_7
        refine lv_aload_n hx hb dX9_meanAge_73 rfl (lv_at hl 0 rfl) ?_
        obtain ⟨r_8, hc_9, hE⟩ := bd1_el hE
        refine ki (X := []) (Y := []) (ws1 := (W_M cy aM mM inM)) (rV (X := []) (Y := []) (As := []) (rest := []) hC (c_X9_blocks l D cy aM mM inM r_8 hc_9) (cwV 0 hts gX9_meanAge_X9_blocks rfl rfl rfl cd_X9_blocks ⟨Nat.le_of_ble_eq_true rfl, Nat.le_of_ble_eq_true rfl⟩) hK hN hP hD hS hA rfl 0 9 rfl rfl rfl hl.1 rfl (lv_room (Nat.le_of_ble_eq_true rfl)) dX9_meanAge_74 ⟨Nat.le_of_ble_eq_true rfl, Nat.le_of_ble_eq_true rfl⟩) hP hD hS hA rfl rfl rfl (fun H locs hP hD hS => ?_)
        refine lv_istore_n (lv' := [(3, .int r_8), (0, .ref (aM 0)), (1, .long x1)]) hx hb dX9_meanAge_77 rfl hl (by decide) rfl (fun ls hl => ?_)
        refine lv_iload_n hx hb dX9_meanAge_78 rfl (lv_at hl 0 rfl) ?_
        refine lv_if_ne (tgt := 86) hx hb dX9_meanAge_79 (by decide) (fun c_10 => ?_) (fun c_10 => ?_)
        · replace hE := it_f hE c_10
          refine lv_lload_n hx hb dX9_meanAge_86 rfl (lv_at hl 2 rfl) ?_
          refine lv_l2d hx hb dX9_meanAge_87 ?_
          refine lv_iload_n hx hb dX9_meanAge_88 rfl (lv_at hl 0 rfl) ?_
          refine lv_i2d hx hb dX9_meanAge_89 ?_
          obtain ⟨g_11, hE⟩ := gn_el hE
          refine lv_ddiv hx hb dX9_meanAge_90 g_11 ?_
          exact h91 (FP.ddiv (FP.l2d x1) (FP.i2d r_8)) mM _ _ _ hE hP hD hS (lv_sub hl [] rfl)
        · replace hE := it_t hE c_10
          refine lv_dconst0 hx hb dX9_meanAge_82 ?_
          refine lv_goto (tgt := 91) hx hb dX9_meanAge_83 (by decide) ?_
          exact h91 (FP.dconst0) mM _ _ _ hE hP hD hS (lv_sub hl [] rfl)
      · replace hE := it_f hE c_7
        refine lv_iconst (v := 0) hx hb dX9_meanAge_23 (by decide) ?_
        refine lv_istore (lv' := [(4, .int (0 : Int32)), (0, .ref (aM 0)), (1, .long x1), (3, .int x3)]) hx hb dX9_meanAge_24 hl (by decide) rfl (fun ls hl => ?_)
        exact h26 x3 mM (f_X9_meanAge_L9 mM inM n) ih fuel x1 (0 : Int32) _ _ _ hE hP hD hS (lv_sub hl [1, 2, 3, 0] rfl)
  unfold f_X9_meanAge at hE
  refine lv_aload_n hx hb dX9_meanAge_0 rfl (lv_at hl 0 rfl) ?_
  refine lv_iconst (v := 0) hx hb dX9_meanAge_1 (by decide) ?_
  obtain ⟨mM_12, e_mM_12, hE⟩ := lt_el hE
  refine s_pf (own := RX9) (C := RX9) (T := TX9) (N := 13) (ci := 9) (ws1 := (W_M cy aM mM_12 inM)) hx hb hts iX9 tyX9 tyX9_ok nmX9 hown hK hP hD hS 0 rfl rfl 8 (by decide) f43 rfl rfl rfl rfl (Nat.le_of_ble_eq_true rfl) (by rw [e_mM_12]; rfl) dX9_meanAge_2 (fun H locs hP hD hS => ?_)
  refine lv_lconst (v := 0) hx hb dX9_meanAge_5 (by decide) ?_
  refine lv_lstore_n (lv' := [(1, .long (0 : Int64)), (0, .ref (aM 0))]) hx hb dX9_meanAge_6 rfl hl (by decide) rfl (fun ls hl => ?_)
  refine lv_iconst (v := 0) hx hb dX9_meanAge_7 (by decide) ?_
  refine lv_istore_n (lv' := [(3, .int (0 : Int32)), (1, .long (0 : Int64)), (0, .ref (aM 0))]) hx hb dX9_meanAge_8 rfl hl (by decide) rfl (fun ls hl => ?_)
  exact h9 mM_12 fuel (0 : Int64) (0 : Int32) _ _ _ hE hP hD hS (lv_sub hl [2, 1, 0] rfl)
