abbrev rm_L_cancel : Room := { frames := 9, cells := 2, slots := 12, locals := 143 }
set_option maxHeartbeats 40000000 in
set_option maxRecDepth 100000 in
theorem c_L_cancel (l : Launch) (hst : l.stackTraces = false) (D : va_G) (cy : Nat → Nat) (aI aT adP adS adB adO adR adA aP aS aB aO aR aA aH : Nat → Nat) (ah : Nat → Nat → Nat → Nat) (bo : Nat) (x1 : Int32) (imT : Mem) (imdP : Mem) (indP : MemL) (imdS : Mem) (imdB : Mem) (imdO : Mem) (imdR : Mem) (imdA : Mem) (indA : MemL) (imP : Mem) (inP : MemL) (imS : Mem) (imB : Mem) (imO : Mem) (imR : Mem) (imA : Mem) (inA : MemL) (imH : Mem) (ihs : (Nat → PSt)) (o o' : Nat → Int64) (k' : Nat) (r' : Int32) (mO' : Mem) (mH' : Mem) (hs' : (Nat → PSt)) (cd : Int32) (hk : k' = 0 ∧ cd = 0 ∨ k' = 1 ∧ cd = 1 ∨ k' = 3 ∧ cd = 2) (ho : (if k' = 0 then vp_updL o 0 r'.toInt64 else o) = o') (hE : f_X8_cancel x1 imT imdP indP imdS imdB imdO imdR imdA indA imP inP imS imB imO imR imA inA imH ihs = some (k', r', mO', mH', hs')) : CH l yL_cancel wsL_cancel rm_L_cancel D cy [.ref (aI 0), .int x1, .ref bo] ([(bo, .inl (cy 1, 1, .inr (.inl o)))] ++ ((W_All cy aI aT adP adS adB adO adR adA aP aS aB aO aR aA aH ah imT imdP indP imdS imdB imdO imdR imdA indA imP inP imS imB imO imR imA inA imH ihs) ++ [])) 2 12 (QI D cy cd ([(bo, .inl (cy 1, 1, .inr (.inl o')))] ++ ((W_All cy aI aT adP adS adB adO adR adA aP aS aB aO aR aA aH ah imT imdP indP imdS imdB imdO imdR imdA indA imP inP imS imB mO' imR imA inA mH' hs') ++ []))) := by
  refine CH_of (cc := cL_cancel) (maxL := 4) (ret := (some .int)) (hh := [(0, 9, 12, 21), (0, 9, 15, 15)]) (by decide) rfl (Nat.le_of_ble_eq_true rfl) (fun p e s m args below meth c A ls hx hb hr hml hlocks hown hts hA htab hK hN hX hP hD hS hl => ?_)
  have hown : s.vm.findClass RL = some m.cls := hown
  have hl : lv_has ls 4 [(0, .ref (aI 0)), (1, .int x1), (2, .ref bo)] := hl
  have hC : CallFix p m c cL_cancel 4 s args wsL_cancel RL := ⟨hx, hb, hml, hown, hts⟩
  refine lv_aload_n hx hb dL_cancel_0 rfl (lv_at hl 2 rfl) ?_
  refine lv_iconst (v := 0) hx hb dL_cancel_1 (by decide) ?_
  refine lv_aload_n hx hb dL_cancel_2 rfl (lv_at hl 0 rfl) ?_
  refine lv_iload_n hx hb dL_cancel_3 rfl (lv_at hl 1 rfl) ?_
  refine kxi (X := [(bo, .inl (cy 1, 1, .inr (.inl o)))]) (Y := []) (ws1 := [(bo, .inl (cy 1, 1, .inr (.inl o)))] ++ ((W_All cy aI aT adP adS adB adO adR adA aP aS aB aO aR aA aH ah imT imdP indP imdS imdB imdO imdR imdA indA imP inP imS imB mO' imR imA inA mH' hs') ++ [])) (xV (X := [(bo, .inl (cy 1, 1, .inr (.inl o)))]) (Y := []) (As := [.int x1]) (rest := [.int (0 : Int32), .ref bo]) hC (c_X8_cancel l hst D cy aI aT adP adS adB adO adR adA aP aS aB aO aR aA aH ah x1 imT imdP indP imdS imdB imdO imdR imdA indA imP inP imS imB imO imR imA inA imH ihs k' r' mO' mH' hs' hE) (cwV 1 hts gL_cancel_X8_cancel rfl rfl rfl cd_X8_cancel ⟨Nat.le_of_ble_eq_true rfl, Nat.le_of_ble_eq_true rfl⟩) hK hN hP hD hS hA rfl 0 8 rfl rfl rfl hl.1 rfl (lv_room (Nat.le_of_ble_eq_true rfl)) dL_cancel_4 ⟨Nat.le_of_ble_eq_true rfl, Nat.le_of_ble_eq_true rfl⟩) hP hD hS hA rfl (fst_All cy aI aT adP adS adB adO adR adA aP aS aB aO aR aA aH ah imT imdP indP imdS imdB imdO imdR imdA indA imP inP imS imB imO imR imA inA imH ihs imT imdP indP imdS imdB imdO imdR imdA indA imP inP imS imB mO' imR imA inA mH' hs') rfl (fun hk0 H locs ce q9 hP hD hS hce hcv hcl => ?_) (fun hk0 H locs hP hD hS => ?_)
  · have ho1 : o = o' := by rw [if_neg hk0] at ho; exact ho
    rw [ho1] at hP hD
    rcases hk with ⟨a, b⟩ | ⟨a, b⟩ | ⟨a, b⟩
    · exact absurd a hk0
    · rw [a] at hcl
      refine kc (k := 1) (pre := []) (suf := [⟨0, 9, 15, 15⟩]) hown ⟨0, 9, 12, 21⟩ htab hX (by decide) (by decide) (fun z hz => absurd hz List.not_mem_nil) rfl (by decide) (hts _ (mC qg_L_21)) hce hcv hcl ?_
      refine W.eq (g2 := F0 m 12 ls [.ref q9]) rfl ?_
      refine lv_astore_n (lv' := [(3, .ref q9), (0, .ref (aI 0)), (1, .int x1), (2, .ref bo)]) hx hb dL_cancel_12 rfl hl (by decide) rfl (fun ls hl => ?_)
      refine lv_iconst (v := 1) hx hb dL_cancel_13 (by decide) ?_
      exact ei hx hb hr hlocks hK hP hD hS b.symm rfl dL_cancel_14
    · rw [a] at hcl
      refine kc (k := 3) (pre := [⟨0, 9, 12, 21⟩]) (suf := []) hown ⟨0, 9, 15, 15⟩ htab hX (by decide) (by decide) (fun z hz => by
        rcases List.mem_singleton.mp hz with rfl
        · exact ⟨by decide, 1, by decide, by decide, by decide, hts _ (mC qg_L_21)⟩) rfl (by decide) (hts _ (mC qg_L_15)) hce hcv hcl ?_
      refine W.eq (g2 := F0 m 15 ls [.ref q9]) rfl ?_
      refine lv_astore_n (lv' := [(3, .ref q9), (0, .ref (aI 0)), (1, .int x1), (2, .ref bo)]) hx hb dL_cancel_15 rfl hl (by decide) rfl (fun ls hl => ?_)
      refine lv_iconst (v := 2) hx hb dL_cancel_16 (by decide) ?_
      exact ei hx hb hr hlocks hK hP hD hS b.symm rfl dL_cancel_17
  · have ho1 : vp_updL o 0 (r'.toInt64) = o' := by rw [if_pos hk0] at ho; exact ho
    have hc0 : cd = 0 := by rcases hk with ⟨a, b⟩ | ⟨a, b⟩ | ⟨a, b⟩ <;> first | exact b | omega
    refine lv_i2l hx hb dL_cancel_7 rfl ?_
    refine s_la (ws1 := [(bo, .inl (cy 1, 1, .inr (.inl o')))] ++ ((W_All cy aI aT adP adS adB adO adR adA aP aS aB aO aR aA aH ah imT imdP indP imdS imdB imdO imdR imdA indA imP inP imS imB mO' imR imA inA mH' hs') ++ [])) hx hb hK hP hD hS 0 rfl (show ¬ ((0 : Int32) < 0 ∨ 1 ≤ (0 : Int32).toNatClampNeg) by decide) (by rw [← ho1]; rfl) dL_cancel_8 (fun H locs hP hD hS => ?_)
    refine lv_goto (tgt := 18) hx hb dL_cancel_9 (by decide) ?_
    refine lv_iconst (v := 0) hx hb dL_cancel_18 (by decide) ?_
    exact ei hx hb hr hlocks hK hP hD hS hc0.symm rfl dL_cancel_19
abbrev rm_L_pay : Room := { frames := 8, cells := 1, slots := 6, locals := 125 }
set_option maxHeartbeats 40000000 in
set_option maxRecDepth 100000 in
theorem c_L_pay (l : Launch) (hst : l.stackTraces = false) (D : va_G) (cy : Nat → Nat) (aI aT adP adS adB adO adR adA aP aS aB aO aR aA aH : Nat → Nat) (ah : Nat → Nat → Nat → Nat) (bo : Nat) (x1 x2 : Int32) (imT : Mem) (imdP : Mem) (indP : MemL) (imdS : Mem) (imdB : Mem) (imdO : Mem) (imdR : Mem) (imdA : Mem) (indA : MemL) (imP : Mem) (inP : MemL) (imS : Mem) (imB : Mem) (imO : Mem) (imR : Mem) (imA : Mem) (inA : MemL) (imH : Mem) (ihs : (Nat → PSt)) (o o' : Nat → Int64) (k' : Nat) (r' : Int32) (nP' : MemL) (mB' : Mem) (mH' : Mem) (hs' : (Nat → PSt)) (cd : Int32) (hk : k' = 0 ∧ cd = 0 ∨ k' = 1 ∧ cd = 1 ∨ k' = 2 ∧ cd = 2 ∨ k' = 3 ∧ cd = 3) (ho : (if k' = 0 then vp_updL o 0 r'.toInt64 else o) = o') (hE : f_X8_pay x1 x2 imT imdP indP imdS imdB imdO imdR imdA indA imP inP imS imB imO imR imA inA imH ihs = some (k', r', nP', mB', mH', hs')) : CH l yL_pay wsL_pay rm_L_pay D cy [.ref (aI 0), .int x1, .int x2, .ref bo] ([(bo, .inl (cy 1, 1, .inr (.inl o)))] ++ ((W_All cy aI aT adP adS adB adO adR adA aP aS aB aO aR aA aH ah imT imdP indP imdS imdB imdO imdR imdA indA imP inP imS imB imO imR imA inA imH ihs) ++ [])) 1 6 (QI D cy cd ([(bo, .inl (cy 1, 1, .inr (.inl o')))] ++ ((W_All cy aI aT adP adS adB adO adR adA aP aS aB aO aR aA aH ah imT imdP indP imdS imdB imdO imdR imdA indA imP nP' imS mB' imO imR imA inA mH' hs') ++ []))) := by
  refine CH_of (cc := cL_pay) (maxL := 5) (ret := (some .int)) (hh := [(0, 10, 13, 21), (0, 10, 17, 13), (0, 10, 21, 15)]) (by decide) rfl (Nat.le_of_ble_eq_true rfl) (fun p e s m args below meth c A ls hx hb hr hml hlocks hown hts hA htab hK hN hX hP hD hS hl => ?_)
  have hown : s.vm.findClass RL = some m.cls := hown
  have hl : lv_has ls 5 [(0, .ref (aI 0)), (1, .int x1), (2, .int x2), (3, .ref bo)] := hl
  have hC : CallFix p m c cL_pay 5 s args wsL_pay RL := ⟨hx, hb, hml, hown, hts⟩
  refine lv_aload_n hx hb dL_pay_0 rfl (lv_at hl 3 rfl) ?_
  refine lv_iconst (v := 0) hx hb dL_pay_1 (by decide) ?_
  refine lv_aload_n hx hb dL_pay_2 rfl (lv_at hl 0 rfl) ?_
  refine lv_iload_n hx hb dL_pay_3 rfl (lv_at hl 1 rfl) ?_
  refine lv_iload_n hx hb dL_pay_4 rfl (lv_at hl 2 rfl) ?_
  refine kxi (X := [(bo, .inl (cy 1, 1, .inr (.inl o)))]) (Y := []) (ws1 := [(bo, .inl (cy 1, 1, .inr (.inl o)))] ++ ((W_All cy aI aT adP adS adB adO adR adA aP aS aB aO aR aA aH ah imT imdP indP imdS imdB imdO imdR imdA indA imP nP' imS mB' imO imR imA inA mH' hs') ++ [])) (xV (X := [(bo, .inl (cy 1, 1, .inr (.inl o)))]) (Y := []) (As := [.int x1, .int x2]) (rest := [.int (0 : Int32), .ref bo]) hC (c_X8_pay l hst D cy aI aT adP adS adB adO adR adA aP aS aB aO aR aA aH ah x1 x2 imT imdP indP imdS imdB imdO imdR imdA indA imP inP imS imB imO imR imA inA imH ihs k' r' nP' mB' mH' hs' hE) (cwV 2 hts gL_pay_X8_pay rfl rfl rfl cd_X8_pay ⟨Nat.le_of_ble_eq_true rfl, Nat.le_of_ble_eq_true rfl⟩) hK hN hP hD hS hA rfl 0 8 rfl rfl rfl hl.1 rfl (lv_room (Nat.le_of_ble_eq_true rfl)) dL_pay_5 ⟨Nat.le_of_ble_eq_true rfl, Nat.le_of_ble_eq_true rfl⟩) hP hD hS hA rfl (fst_All cy aI aT adP adS adB adO adR adA aP aS aB aO aR aA aH ah imT imdP indP imdS imdB imdO imdR imdA indA imP inP imS imB imO imR imA inA imH ihs imT imdP indP imdS imdB imdO imdR imdA indA imP nP' imS mB' imO imR imA inA mH' hs') rfl (fun hk0 H locs ce q9 hP hD hS hce hcv hcl => ?_) (fun hk0 H locs hP hD hS => ?_)
  · have ho1 : o = o' := by rw [if_neg hk0] at ho; exact ho
    rw [ho1] at hP hD
    rcases hk with ⟨a, b⟩ | ⟨a, b⟩ | ⟨a, b⟩ | ⟨a, b⟩
    · exact absurd a hk0
    · rw [a] at hcl
      refine kc (k := 1) (pre := []) (suf := [⟨0, 10, 17, 13⟩, ⟨0, 10, 21, 15⟩]) hown ⟨0, 10, 13, 21⟩ htab hX (by decide) (by decide) (fun z hz => absurd hz List.not_mem_nil) rfl (by decide) (hts _ (mC qg_L_21)) hce hcv hcl ?_
      refine W.eq (g2 := F0 m 13 ls [.ref q9]) rfl ?_
      refine lv_astore (lv' := [(4, .ref q9), (0, .ref (aI 0)), (1, .int x1), (2, .int x2), (3, .ref bo)]) hx hb dL_pay_13 hl (by decide) rfl (fun ls hl => ?_)
      refine lv_iconst (v := 1) hx hb dL_pay_15 (by decide) ?_
      exact ei hx hb hr hlocks hK hP hD hS b.symm rfl dL_pay_16
    · rw [a] at hcl
      refine kc (k := 2) (pre := [⟨0, 10, 13, 21⟩]) (suf := [⟨0, 10, 21, 15⟩]) hown ⟨0, 10, 17, 13⟩ htab hX (by decide) (by decide) (fun z hz => by
        rcases List.mem_singleton.mp hz with rfl
        · exact ⟨by decide, 1, by decide, by decide, by decide, hts _ (mC qg_L_21)⟩) rfl (by decide) (hts _ (mC qg_L_13)) hce hcv hcl ?_
      refine W.eq (g2 := F0 m 17 ls [.ref q9]) rfl ?_
      refine lv_astore (lv' := [(4, .ref q9), (0, .ref (aI 0)), (1, .int x1), (2, .int x2), (3, .ref bo)]) hx hb dL_pay_17 hl (by decide) rfl (fun ls hl => ?_)
      refine lv_iconst (v := 2) hx hb dL_pay_19 (by decide) ?_
      exact ei hx hb hr hlocks hK hP hD hS b.symm rfl dL_pay_20
    · rw [a] at hcl
      refine kc (k := 3) (pre := [⟨0, 10, 13, 21⟩, ⟨0, 10, 17, 13⟩]) (suf := []) hown ⟨0, 10, 21, 15⟩ htab hX (by decide) (by decide) (fun z hz => by
        rcases List.mem_cons.mp hz with rfl | hz
        · exact ⟨by decide, 1, by decide, by decide, by decide, hts _ (mC qg_L_21)⟩
        · rcases List.mem_singleton.mp hz with rfl
          exact ⟨by decide, 2, by decide, by decide, by decide, hts _ (mC qg_L_13)⟩) rfl (by decide) (hts _ (mC qg_L_15)) hce hcv hcl ?_
      refine W.eq (g2 := F0 m 21 ls [.ref q9]) rfl ?_
      refine lv_astore (lv' := [(4, .ref q9), (0, .ref (aI 0)), (1, .int x1), (2, .int x2), (3, .ref bo)]) hx hb dL_pay_21 hl (by decide) rfl (fun ls hl => ?_)
      refine lv_iconst (v := 3) hx hb dL_pay_23 (by decide) ?_
      exact ei hx hb hr hlocks hK hP hD hS b.symm rfl dL_pay_24
  · have ho1 : vp_updL o 0 (r'.toInt64) = o' := by rw [if_pos hk0] at ho; exact ho
    have hc0 : cd = 0 := by rcases hk with ⟨a, b⟩ | ⟨a, b⟩ | ⟨a, b⟩ | ⟨a, b⟩ <;> first | exact b | omega
    refine lv_i2l hx hb dL_pay_8 rfl ?_
    refine s_la (ws1 := [(bo, .inl (cy 1, 1, .inr (.inl o')))] ++ ((W_All cy aI aT adP adS adB adO adR adA aP aS aB aO aR aA aH ah imT imdP indP imdS imdB imdO imdR imdA indA imP nP' imS mB' imO imR imA inA mH' hs') ++ [])) hx hb hK hP hD hS 0 rfl (show ¬ ((0 : Int32) < 0 ∨ 1 ≤ (0 : Int32).toNatClampNeg) by decide) (by rw [← ho1]; rfl) dL_pay_9 (fun H locs hP hD hS => ?_)
    refine lv_goto (tgt := 25) hx hb dL_pay_10 (by decide) ?_
    refine lv_iconst (v := 0) hx hb dL_pay_25 (by decide) ?_
    exact ei hx hb hr hlocks hK hP hD hS hc0.symm rfl dL_pay_26
abbrev rm_L_silo : Room := { frames := 9, cells := 2, slots := 12, locals := 144 }
set_option maxHeartbeats 40000000 in
set_option maxRecDepth 100000 in
theorem c_L_silo (l : Launch) (hst : l.stackTraces = false) (D : va_G) (cy : Nat → Nat) (aI aT adP adS adB adO adR adA aP aS aB aO aR aA aH : Nat → Nat) (ah : Nat → Nat → Nat → Nat) (bo : Nat) (x1 x2 : Int32) (imT : Mem) (imdP : Mem) (indP : MemL) (imdS : Mem) (imdB : Mem) (imdO : Mem) (imdR : Mem) (imdA : Mem) (indA : MemL) (imP : Mem) (inP : MemL) (imS : Mem) (imB : Mem) (imO : Mem) (imR : Mem) (imA : Mem) (inA : MemL) (imH : Mem) (ihs : (Nat → PSt)) (o o' : Nat → Int64) (k' : Nat) (r' : Int32)  (cd : Int32) (hk : k' = 0 ∧ cd = 0 ∨ k' = 1 ∧ cd = 1 ∨ k' = 2 ∧ cd = 2) (ho : (if k' = 0 then vp_updL o 0 r'.toInt64 else o) = o') (hE : f_X8_silo x1 x2 imT imdP indP imdS imdB imdO imdR imdA indA imP inP imS imB imO imR imA inA imH ihs = some (k', r')) : CH l yL_silo wsL_silo rm_L_silo D cy [.ref (aI 0), .int x1, .int x2, .ref bo] ([(bo, .inl (cy 1, 1, .inr (.inl o)))] ++ ((W_All cy aI aT adP adS adB adO adR adA aP aS aB aO aR aA aH ah imT imdP indP imdS imdB imdO imdR imdA indA imP inP imS imB imO imR imA inA imH ihs) ++ [])) 2 12 (QI D cy cd ([(bo, .inl (cy 1, 1, .inr (.inl o')))] ++ ((W_All cy aI aT adP adS adB adO adR adA aP aS aB aO aR aA aH ah imT imdP indP imdS imdB imdO imdR imdA indA imP inP imS imB imO imR imA inA imH ihs) ++ []))) := by
  refine CH_of (cc := cL_silo) (maxL := 5) (ret := (some .int)) (hh := [(0, 10, 13, 21), (0, 10, 17, 13)]) (by decide) rfl (Nat.le_of_ble_eq_true rfl) (fun p e s m args below meth c A ls hx hb hr hml hlocks hown hts hA htab hK hN hX hP hD hS hl => ?_)
  have hown : s.vm.findClass RL = some m.cls := hown
  have hl : lv_has ls 5 [(0, .ref (aI 0)), (1, .int x1), (2, .int x2), (3, .ref bo)] := hl
  have hC : CallFix p m c cL_silo 5 s args wsL_silo RL := ⟨hx, hb, hml, hown, hts⟩
  refine lv_aload_n hx hb dL_silo_0 rfl (lv_at hl 3 rfl) ?_
  refine lv_iconst (v := 0) hx hb dL_silo_1 (by decide) ?_
  refine lv_aload_n hx hb dL_silo_2 rfl (lv_at hl 0 rfl) ?_
  refine lv_iload_n hx hb dL_silo_3 rfl (lv_at hl 1 rfl) ?_
  refine lv_iload_n hx hb dL_silo_4 rfl (lv_at hl 2 rfl) ?_
  refine kxi (X := [(bo, .inl (cy 1, 1, .inr (.inl o)))]) (Y := []) (ws1 := [(bo, .inl (cy 1, 1, .inr (.inl o)))] ++ ((W_All cy aI aT adP adS adB adO adR adA aP aS aB aO aR aA aH ah imT imdP indP imdS imdB imdO imdR imdA indA imP inP imS imB imO imR imA inA imH ihs) ++ [])) (xV (X := [(bo, .inl (cy 1, 1, .inr (.inl o)))]) (Y := []) (As := [.int x1, .int x2]) (rest := [.int (0 : Int32), .ref bo]) hC (c_X8_silo l hst D cy aI aT adP adS adB adO adR adA aP aS aB aO aR aA aH ah x1 x2 imT imdP indP imdS imdB imdO imdR imdA indA imP inP imS imB imO imR imA inA imH ihs k' r' hE) (cwV 2 hts gL_silo_X8_silo rfl rfl rfl cd_X8_silo ⟨Nat.le_of_ble_eq_true rfl, Nat.le_of_ble_eq_true rfl⟩) hK hN hP hD hS hA rfl 0 8 rfl rfl rfl hl.1 rfl (lv_room (Nat.le_of_ble_eq_true rfl)) dL_silo_5 ⟨Nat.le_of_ble_eq_true rfl, Nat.le_of_ble_eq_true rfl⟩) hP hD hS hA rfl (fst_All cy aI aT adP adS adB adO adR adA aP aS aB aO aR aA aH ah imT imdP indP imdS imdB imdO imdR imdA indA imP inP imS imB imO imR imA inA imH ihs imT imdP indP imdS imdB imdO imdR imdA indA imP inP imS imB imO imR imA inA imH ihs) rfl (fun hk0 H locs ce q9 hP hD hS hce hcv hcl => ?_) (fun hk0 H locs hP hD hS => ?_)
  · have ho1 : o = o' := by rw [if_neg hk0] at ho; exact ho
    rw [ho1] at hP hD
    rcases hk with ⟨a, b⟩ | ⟨a, b⟩ | ⟨a, b⟩
    · exact absurd a hk0
    · rw [a] at hcl
      refine kc (k := 1) (pre := []) (suf := [⟨0, 10, 17, 13⟩]) hown ⟨0, 10, 13, 21⟩ htab hX (by decide) (by decide) (fun z hz => absurd hz List.not_mem_nil) rfl (by decide) (hts _ (mC qg_L_21)) hce hcv hcl ?_
      refine W.eq (g2 := F0 m 13 ls [.ref q9]) rfl ?_
      refine lv_astore (lv' := [(4, .ref q9), (0, .ref (aI 0)), (1, .int x1), (2, .int x2), (3, .ref bo)]) hx hb dL_silo_13 hl (by decide) rfl (fun ls hl => ?_)
      refine lv_iconst (v := 1) hx hb dL_silo_15 (by decide) ?_
      exact ei hx hb hr hlocks hK hP hD hS b.symm rfl dL_silo_16
    · rw [a] at hcl
      refine kc (k := 2) (pre := [⟨0, 10, 13, 21⟩]) (suf := []) hown ⟨0, 10, 17, 13⟩ htab hX (by decide) (by decide) (fun z hz => by
        rcases List.mem_singleton.mp hz with rfl
        · exact ⟨by decide, 1, by decide, by decide, by decide, hts _ (mC qg_L_21)⟩) rfl (by decide) (hts _ (mC qg_L_13)) hce hcv hcl ?_
      refine W.eq (g2 := F0 m 17 ls [.ref q9]) rfl ?_
      refine lv_astore (lv' := [(4, .ref q9), (0, .ref (aI 0)), (1, .int x1), (2, .int x2), (3, .ref bo)]) hx hb dL_silo_17 hl (by decide) rfl (fun ls hl => ?_)
      refine lv_iconst (v := 2) hx hb dL_silo_19 (by decide) ?_
      exact ei hx hb hr hlocks hK hP hD hS b.symm rfl dL_silo_20
  · have ho1 : vp_updL o 0 (r'.toInt64) = o' := by rw [if_pos hk0] at ho; exact ho
    have hc0 : cd = 0 := by rcases hk with ⟨a, b⟩ | ⟨a, b⟩ | ⟨a, b⟩ <;> first | exact b | omega
    refine lv_i2l hx hb dL_silo_8 rfl ?_
    refine s_la (ws1 := [(bo, .inl (cy 1, 1, .inr (.inl o')))] ++ ((W_All cy aI aT adP adS adB adO adR adA aP aS aB aO aR aA aH ah imT imdP indP imdS imdB imdO imdR imdA indA imP inP imS imB imO imR imA inA imH ihs) ++ [])) hx hb hK hP hD hS 0 rfl (show ¬ ((0 : Int32) < 0 ∨ 1 ≤ (0 : Int32).toNatClampNeg) by decide) (by rw [← ho1]; rfl) dL_silo_9 (fun H locs hP hD hS => ?_)
    refine lv_goto (tgt := 21) hx hb dL_silo_10 (by decide) ?_
    refine lv_iconst (v := 0) hx hb dL_silo_21 (by decide) ?_
    exact ei hx hb hr hlocks hK hP hD hS hc0.symm rfl dL_silo_22
abbrev rm_L_block : Room := { frames := 9, cells := 2, slots := 12, locals := 146 }
set_option maxHeartbeats 40000000 in
set_option maxRecDepth 100000 in
theorem c_L_block (l : Launch) (hst : l.stackTraces = false) (D : va_G) (cy : Nat → Nat) (aI aT adP adS adB adO adR adA aP aS aB aO aR aA aH : Nat → Nat) (ah : Nat → Nat → Nat → Nat) (bo : Nat) (x1 x2 x3 : Int32) (imT : Mem) (imdP : Mem) (indP : MemL) (imdS : Mem) (imdB : Mem) (imdO : Mem) (imdR : Mem) (imdA : Mem) (indA : MemL) (imP : Mem) (inP : MemL) (imS : Mem) (imB : Mem) (imO : Mem) (imR : Mem) (imA : Mem) (inA : MemL) (imH : Mem) (ihs : (Nat → PSt)) (o o' : Nat → Int64) (k' : Nat) (r' : Int32)  (cd : Int32) (hk : k' = 0 ∧ cd = 0 ∨ k' = 1 ∧ cd = 1 ∨ k' = 2 ∧ cd = 2) (ho : (if k' = 0 then vp_updL o 0 r'.toInt64 else o) = o') (hE : f_X8_block x1 x2 x3 imT imdP indP imdS imdB imdO imdR imdA indA imP inP imS imB imO imR imA inA imH ihs = some (k', r')) : CH l yL_block wsL_block rm_L_block D cy [.ref (aI 0), .int x1, .int x2, .int x3, .ref bo] ([(bo, .inl (cy 1, 1, .inr (.inl o)))] ++ ((W_All cy aI aT adP adS adB adO adR adA aP aS aB aO aR aA aH ah imT imdP indP imdS imdB imdO imdR imdA indA imP inP imS imB imO imR imA inA imH ihs) ++ [])) 2 12 (QI D cy cd ([(bo, .inl (cy 1, 1, .inr (.inl o')))] ++ ((W_All cy aI aT adP adS adB adO adR adA aP aS aB aO aR aA aH ah imT imdP indP imdS imdB imdO imdR imdA indA imP inP imS imB imO imR imA inA imH ihs) ++ []))) := by
  refine CH_of (cc := cL_block) (maxL := 6) (ret := (some .int)) (hh := [(0, 12, 15, 21), (0, 12, 19, 13)]) (by decide) rfl (Nat.le_of_ble_eq_true rfl) (fun p e s m args below meth c A ls hx hb hr hml hlocks hown hts hA htab hK hN hX hP hD hS hl => ?_)
  have hown : s.vm.findClass RL = some m.cls := hown
  have hl : lv_has ls 6 [(0, .ref (aI 0)), (1, .int x1), (2, .int x2), (3, .int x3), (4, .ref bo)] := hl
  have hC : CallFix p m c cL_block 6 s args wsL_block RL := ⟨hx, hb, hml, hown, hts⟩
  refine lv_aload hx hb dL_block_0 (lv_at hl 4 rfl) ?_
  refine lv_iconst (v := 0) hx hb dL_block_2 (by decide) ?_
  refine lv_aload_n hx hb dL_block_3 rfl (lv_at hl 0 rfl) ?_
  refine lv_iload_n hx hb dL_block_4 rfl (lv_at hl 1 rfl) ?_
  refine lv_iload_n hx hb dL_block_5 rfl (lv_at hl 2 rfl) ?_
  refine lv_iload_n hx hb dL_block_6 rfl (lv_at hl 3 rfl) ?_
  refine kxi (X := [(bo, .inl (cy 1, 1, .inr (.inl o)))]) (Y := []) (ws1 := [(bo, .inl (cy 1, 1, .inr (.inl o)))] ++ ((W_All cy aI aT adP adS adB adO adR adA aP aS aB aO aR aA aH ah imT imdP indP imdS imdB imdO imdR imdA indA imP inP imS imB imO imR imA inA imH ihs) ++ [])) (xV (X := [(bo, .inl (cy 1, 1, .inr (.inl o)))]) (Y := []) (As := [.int x1, .int x2, .int x3]) (rest := [.int (0 : Int32), .ref bo]) hC (c_X8_block l hst D cy aI aT adP adS adB adO adR adA aP aS aB aO aR aA aH ah x1 x2 x3 imT imdP indP imdS imdB imdO imdR imdA indA imP inP imS imB imO imR imA inA imH ihs k' r' hE) (cwV 3 hts gL_block_X8_block rfl rfl rfl cd_X8_block ⟨Nat.le_of_ble_eq_true rfl, Nat.le_of_ble_eq_true rfl⟩) hK hN hP hD hS hA rfl 0 8 rfl rfl rfl hl.1 rfl (lv_room (Nat.le_of_ble_eq_true rfl)) dL_block_7 ⟨Nat.le_of_ble_eq_true rfl, Nat.le_of_ble_eq_true rfl⟩) hP hD hS hA rfl (fst_All cy aI aT adP adS adB adO adR adA aP aS aB aO aR aA aH ah imT imdP indP imdS imdB imdO imdR imdA indA imP inP imS imB imO imR imA inA imH ihs imT imdP indP imdS imdB imdO imdR imdA indA imP inP imS imB imO imR imA inA imH ihs) rfl (fun hk0 H locs ce q9 hP hD hS hce hcv hcl => ?_) (fun hk0 H locs hP hD hS => ?_)
  · have ho1 : o = o' := by rw [if_neg hk0] at ho; exact ho
    rw [ho1] at hP hD
    rcases hk with ⟨a, b⟩ | ⟨a, b⟩ | ⟨a, b⟩
    · exact absurd a hk0
    · rw [a] at hcl
      refine kc (k := 1) (pre := []) (suf := [⟨0, 12, 19, 13⟩]) hown ⟨0, 12, 15, 21⟩ htab hX (by decide) (by decide) (fun z hz => absurd hz List.not_mem_nil) rfl (by decide) (hts _ (mC qg_L_21)) hce hcv hcl ?_
      refine W.eq (g2 := F0 m 15 ls [.ref q9]) rfl ?_
      refine lv_astore (lv' := [(5, .ref q9), (0, .ref (aI 0)), (1, .int x1), (2, .int x2), (3, .int x3), (4, .ref bo)]) hx hb dL_block_15 hl (by decide) rfl (fun ls hl => ?_)
      refine lv_iconst (v := 1) hx hb dL_block_17 (by decide) ?_
      exact ei hx hb hr hlocks hK hP hD hS b.symm rfl dL_block_18
    · rw [a] at hcl
      refine kc (k := 2) (pre := [⟨0, 12, 15, 21⟩]) (suf := []) hown ⟨0, 12, 19, 13⟩ htab hX (by decide) (by decide) (fun z hz => by
        rcases List.mem_singleton.mp hz with rfl
        · exact ⟨by decide, 1, by decide, by decide, by decide, hts _ (mC qg_L_21)⟩) rfl (by decide) (hts _ (mC qg_L_13)) hce hcv hcl ?_
      refine W.eq (g2 := F0 m 19 ls [.ref q9]) rfl ?_
      refine lv_astore (lv' := [(5, .ref q9), (0, .ref (aI 0)), (1, .int x1), (2, .int x2), (3, .int x3), (4, .ref bo)]) hx hb dL_block_19 hl (by decide) rfl (fun ls hl => ?_)
      refine lv_iconst (v := 2) hx hb dL_block_21 (by decide) ?_
      exact ei hx hb hr hlocks hK hP hD hS b.symm rfl dL_block_22
  · have ho1 : vp_updL o 0 (r'.toInt64) = o' := by rw [if_pos hk0] at ho; exact ho
    have hc0 : cd = 0 := by rcases hk with ⟨a, b⟩ | ⟨a, b⟩ | ⟨a, b⟩ <;> first | exact b | omega
    refine lv_i2l hx hb dL_block_10 rfl ?_
    refine s_la (ws1 := [(bo, .inl (cy 1, 1, .inr (.inl o')))] ++ ((W_All cy aI aT adP adS adB adO adR adA aP aS aB aO aR aA aH ah imT imdP indP imdS imdB imdO imdR imdA indA imP inP imS imB imO imR imA inA imH ihs) ++ [])) hx hb hK hP hD hS 0 rfl (show ¬ ((0 : Int32) < 0 ∨ 1 ≤ (0 : Int32).toNatClampNeg) by decide) (by rw [← ho1]; rfl) dL_block_11 (fun H locs hP hD hS => ?_)
    refine lv_goto (tgt := 23) hx hb dL_block_12 (by decide) ?_
    refine lv_iconst (v := 0) hx hb dL_block_23 (by decide) ?_
    exact ei hx hb hr hlocks hK hP hD hS hc0.symm rfl dL_block_24
abbrev rm_L_boat : Room := { frames := 9, cells := 2, slots := 12, locals := 144 }
set_option maxHeartbeats 40000000 in
set_option maxRecDepth 100000 in
theorem c_L_boat (l : Launch) (hst : l.stackTraces = false) (D : va_G) (cy : Nat → Nat) (aI aT adP adS adB adO adR adA aP aS aB aO aR aA aH : Nat → Nat) (ah : Nat → Nat → Nat → Nat) (bo : Nat) (x1 x2 : Int32) (imT : Mem) (imdP : Mem) (indP : MemL) (imdS : Mem) (imdB : Mem) (imdO : Mem) (imdR : Mem) (imdA : Mem) (indA : MemL) (imP : Mem) (inP : MemL) (imS : Mem) (imB : Mem) (imO : Mem) (imR : Mem) (imA : Mem) (inA : MemL) (imH : Mem) (ihs : (Nat → PSt)) (o o' : Nat → Int64) (k' : Nat) (r' : Int32)  (cd : Int32) (hk : k' = 0 ∧ cd = 0 ∨ k' = 1 ∧ cd = 1 ∨ k' = 2 ∧ cd = 2) (ho : (if k' = 0 then vp_updL o 0 r'.toInt64 else o) = o') (hE : f_X8_boat x1 x2 imT imdP indP imdS imdB imdO imdR imdA indA imP inP imS imB imO imR imA inA imH ihs = some (k', r')) : CH l yL_boat wsL_boat rm_L_boat D cy [.ref (aI 0), .int x1, .int x2, .ref bo] ([(bo, .inl (cy 1, 1, .inr (.inl o)))] ++ ((W_All cy aI aT adP adS adB adO adR adA aP aS aB aO aR aA aH ah imT imdP indP imdS imdB imdO imdR imdA indA imP inP imS imB imO imR imA inA imH ihs) ++ [])) 2 12 (QI D cy cd ([(bo, .inl (cy 1, 1, .inr (.inl o')))] ++ ((W_All cy aI aT adP adS adB adO adR adA aP aS aB aO aR aA aH ah imT imdP indP imdS imdB imdO imdR imdA indA imP inP imS imB imO imR imA inA imH ihs) ++ []))) := by
  refine CH_of (cc := cL_boat) (maxL := 5) (ret := (some .int)) (hh := [(0, 10, 13, 21), (0, 10, 17, 13)]) (by decide) rfl (Nat.le_of_ble_eq_true rfl) (fun p e s m args below meth c A ls hx hb hr hml hlocks hown hts hA htab hK hN hX hP hD hS hl => ?_)
  have hown : s.vm.findClass RL = some m.cls := hown
  have hl : lv_has ls 5 [(0, .ref (aI 0)), (1, .int x1), (2, .int x2), (3, .ref bo)] := hl
  have hC : CallFix p m c cL_boat 5 s args wsL_boat RL := ⟨hx, hb, hml, hown, hts⟩
  refine lv_aload_n hx hb dL_boat_0 rfl (lv_at hl 3 rfl) ?_
  refine lv_iconst (v := 0) hx hb dL_boat_1 (by decide) ?_
  refine lv_aload_n hx hb dL_boat_2 rfl (lv_at hl 0 rfl) ?_
  refine lv_iload_n hx hb dL_boat_3 rfl (lv_at hl 1 rfl) ?_
  refine lv_iload_n hx hb dL_boat_4 rfl (lv_at hl 2 rfl) ?_
  refine kxi (X := [(bo, .inl (cy 1, 1, .inr (.inl o)))]) (Y := []) (ws1 := [(bo, .inl (cy 1, 1, .inr (.inl o)))] ++ ((W_All cy aI aT adP adS adB adO adR adA aP aS aB aO aR aA aH ah imT imdP indP imdS imdB imdO imdR imdA indA imP inP imS imB imO imR imA inA imH ihs) ++ [])) (xV (X := [(bo, .inl (cy 1, 1, .inr (.inl o)))]) (Y := []) (As := [.int x1, .int x2]) (rest := [.int (0 : Int32), .ref bo]) hC (c_X8_boat l hst D cy aI aT adP adS adB adO adR adA aP aS aB aO aR aA aH ah x1 x2 imT imdP indP imdS imdB imdO imdR imdA indA imP inP imS imB imO imR imA inA imH ihs k' r' hE) (cwV 2 hts gL_boat_X8_boat rfl rfl rfl cd_X8_boat ⟨Nat.le_of_ble_eq_true rfl, Nat.le_of_ble_eq_true rfl⟩) hK hN hP hD hS hA rfl 0 8 rfl rfl rfl hl.1 rfl (lv_room (Nat.le_of_ble_eq_true rfl)) dL_boat_5 ⟨Nat.le_of_ble_eq_true rfl, Nat.le_of_ble_eq_true rfl⟩) hP hD hS hA rfl (fst_All cy aI aT adP adS adB adO adR adA aP aS aB aO aR aA aH ah imT imdP indP imdS imdB imdO imdR imdA indA imP inP imS imB imO imR imA inA imH ihs imT imdP indP imdS imdB imdO imdR imdA indA imP inP imS imB imO imR imA inA imH ihs) rfl (fun hk0 H locs ce q9 hP hD hS hce hcv hcl => ?_) (fun hk0 H locs hP hD hS => ?_)
  · have ho1 : o = o' := by rw [if_neg hk0] at ho; exact ho
    rw [ho1] at hP hD
    rcases hk with ⟨a, b⟩ | ⟨a, b⟩ | ⟨a, b⟩
    · exact absurd a hk0
    · rw [a] at hcl
      refine kc (k := 1) (pre := []) (suf := [⟨0, 10, 17, 13⟩]) hown ⟨0, 10, 13, 21⟩ htab hX (by decide) (by decide) (fun z hz => absurd hz List.not_mem_nil) rfl (by decide) (hts _ (mC qg_L_21)) hce hcv hcl ?_
      refine W.eq (g2 := F0 m 13 ls [.ref q9]) rfl ?_
      refine lv_astore (lv' := [(4, .ref q9), (0, .ref (aI 0)), (1, .int x1), (2, .int x2), (3, .ref bo)]) hx hb dL_boat_13 hl (by decide) rfl (fun ls hl => ?_)
      refine lv_iconst (v := 1) hx hb dL_boat_15 (by decide) ?_
      exact ei hx hb hr hlocks hK hP hD hS b.symm rfl dL_boat_16
    · rw [a] at hcl
      refine kc (k := 2) (pre := [⟨0, 10, 13, 21⟩]) (suf := []) hown ⟨0, 10, 17, 13⟩ htab hX (by decide) (by decide) (fun z hz => by
        rcases List.mem_singleton.mp hz with rfl
        · exact ⟨by decide, 1, by decide, by decide, by decide, hts _ (mC qg_L_21)⟩) rfl (by decide) (hts _ (mC qg_L_13)) hce hcv hcl ?_
      refine W.eq (g2 := F0 m 17 ls [.ref q9]) rfl ?_
      refine lv_astore (lv' := [(4, .ref q9), (0, .ref (aI 0)), (1, .int x1), (2, .int x2), (3, .ref bo)]) hx hb dL_boat_17 hl (by decide) rfl (fun ls hl => ?_)
      refine lv_iconst (v := 2) hx hb dL_boat_19 (by decide) ?_
      exact ei hx hb hr hlocks hK hP hD hS b.symm rfl dL_boat_20
  · have ho1 : vp_updL o 0 (r'.toInt64) = o' := by rw [if_pos hk0] at ho; exact ho
    have hc0 : cd = 0 := by rcases hk with ⟨a, b⟩ | ⟨a, b⟩ | ⟨a, b⟩ <;> first | exact b | omega
    refine lv_i2l hx hb dL_boat_8 rfl ?_
    refine s_la (ws1 := [(bo, .inl (cy 1, 1, .inr (.inl o')))] ++ ((W_All cy aI aT adP adS adB adO adR adA aP aS aB aO aR aA aH ah imT imdP indP imdS imdB imdO imdR imdA indA imP inP imS imB imO imR imA inA imH ihs) ++ [])) hx hb hK hP hD hS 0 rfl (show ¬ ((0 : Int32) < 0 ∨ 1 ≤ (0 : Int32).toNatClampNeg) by decide) (by rw [← ho1]; rfl) dL_boat_9 (fun H locs hP hD hS => ?_)
    refine lv_goto (tgt := 21) hx hb dL_boat_10 (by decide) ?_
    refine lv_iconst (v := 0) hx hb dL_boat_21 (by decide) ?_
    exact ei hx hb hr hlocks hK hP hD hS hc0.symm rfl dL_boat_22
abbrev rm_L_orderProperty : Room := { frames := 9, cells := 2, slots := 12, locals := 144 }
set_option maxHeartbeats 40000000 in
set_option maxRecDepth 100000 in
theorem c_L_orderProperty (l : Launch) (hst : l.stackTraces = false) (D : va_G) (cy : Nat → Nat) (aI aT adP adS adB adO adR adA aP aS aB aO aR aA aH : Nat → Nat) (ah : Nat → Nat → Nat → Nat) (bo : Nat) (x1 x2 : Int32) (imT : Mem) (imdP : Mem) (indP : MemL) (imdS : Mem) (imdB : Mem) (imdO : Mem) (imdR : Mem) (imdA : Mem) (indA : MemL) (imP : Mem) (inP : MemL) (imS : Mem) (imB : Mem) (imO : Mem) (imR : Mem) (imA : Mem) (inA : MemL) (imH : Mem) (ihs : (Nat → PSt)) (o o' : Nat → Int64) (k' : Nat) (r' : Int32)  (cd : Int32) (hk : k' = 0 ∧ cd = 0 ∨ k' = 1 ∧ cd = 1 ∨ k' = 2 ∧ cd = 2) (ho : (if k' = 0 then vp_updL o 0 r'.toInt64 else o) = o') (hE : f_X8_orderProperty x1 x2 imT imdP indP imdS imdB imdO imdR imdA indA imP inP imS imB imO imR imA inA imH ihs = some (k', r')) : CH l yL_orderProperty wsL_orderProperty rm_L_orderProperty D cy [.ref (aI 0), .int x1, .int x2, .ref bo] ([(bo, .inl (cy 1, 1, .inr (.inl o)))] ++ ((W_All cy aI aT adP adS adB adO adR adA aP aS aB aO aR aA aH ah imT imdP indP imdS imdB imdO imdR imdA indA imP inP imS imB imO imR imA inA imH ihs) ++ [])) 2 12 (QI D cy cd ([(bo, .inl (cy 1, 1, .inr (.inl o')))] ++ ((W_All cy aI aT adP adS adB adO adR adA aP aS aB aO aR aA aH ah imT imdP indP imdS imdB imdO imdR imdA indA imP inP imS imB imO imR imA inA imH ihs) ++ []))) := by
  refine CH_of (cc := cL_orderProperty) (maxL := 5) (ret := (some .int)) (hh := [(0, 10, 13, 21), (0, 10, 17, 13)]) (by decide) rfl (Nat.le_of_ble_eq_true rfl) (fun p e s m args below meth c A ls hx hb hr hml hlocks hown hts hA htab hK hN hX hP hD hS hl => ?_)
  have hown : s.vm.findClass RL = some m.cls := hown
  have hl : lv_has ls 5 [(0, .ref (aI 0)), (1, .int x1), (2, .int x2), (3, .ref bo)] := hl
  have hC : CallFix p m c cL_orderProperty 5 s args wsL_orderProperty RL := ⟨hx, hb, hml, hown, hts⟩
  refine lv_aload_n hx hb dL_orderProperty_0 rfl (lv_at hl 3 rfl) ?_
  refine lv_iconst (v := 0) hx hb dL_orderProperty_1 (by decide) ?_
  refine lv_aload_n hx hb dL_orderProperty_2 rfl (lv_at hl 0 rfl) ?_
  refine lv_iload_n hx hb dL_orderProperty_3 rfl (lv_at hl 1 rfl) ?_
  refine lv_iload_n hx hb dL_orderProperty_4 rfl (lv_at hl 2 rfl) ?_
  refine kxi (X := [(bo, .inl (cy 1, 1, .inr (.inl o)))]) (Y := []) (ws1 := [(bo, .inl (cy 1, 1, .inr (.inl o)))] ++ ((W_All cy aI aT adP adS adB adO adR adA aP aS aB aO aR aA aH ah imT imdP indP imdS imdB imdO imdR imdA indA imP inP imS imB imO imR imA inA imH ihs) ++ [])) (xV (X := [(bo, .inl (cy 1, 1, .inr (.inl o)))]) (Y := []) (As := [.int x1, .int x2]) (rest := [.int (0 : Int32), .ref bo]) hC (c_X8_orderProperty l hst D cy aI aT adP adS adB adO adR adA aP aS aB aO aR aA aH ah x1 x2 imT imdP indP imdS imdB imdO imdR imdA indA imP inP imS imB imO imR imA inA imH ihs k' r' hE) (cwV 2 hts gL_orderProperty_X8_orderProperty rfl rfl rfl cd_X8_orderProperty ⟨Nat.le_of_ble_eq_true rfl, Nat.le_of_ble_eq_true rfl⟩) hK hN hP hD hS hA rfl 0 8 rfl rfl rfl hl.1 rfl (lv_room (Nat.le_of_ble_eq_true rfl)) dL_orderProperty_5 ⟨Nat.le_of_ble_eq_true rfl, Nat.le_of_ble_eq_true rfl⟩) hP hD hS hA rfl (fst_All cy aI aT adP adS adB adO adR adA aP aS aB aO aR aA aH ah imT imdP indP imdS imdB imdO imdR imdA indA imP inP imS imB imO imR imA inA imH ihs imT imdP indP imdS imdB imdO imdR imdA indA imP inP imS imB imO imR imA inA imH ihs) rfl (fun hk0 H locs ce q9 hP hD hS hce hcv hcl => ?_) (fun hk0 H locs hP hD hS => ?_)
  · have ho1 : o = o' := by rw [if_neg hk0] at ho; exact ho
    rw [ho1] at hP hD
    rcases hk with ⟨a, b⟩ | ⟨a, b⟩ | ⟨a, b⟩
    · exact absurd a hk0
    · rw [a] at hcl
      refine kc (k := 1) (pre := []) (suf := [⟨0, 10, 17, 13⟩]) hown ⟨0, 10, 13, 21⟩ htab hX (by decide) (by decide) (fun z hz => absurd hz List.not_mem_nil) rfl (by decide) (hts _ (mC qg_L_21)) hce hcv hcl ?_
      refine W.eq (g2 := F0 m 13 ls [.ref q9]) rfl ?_
      refine lv_astore (lv' := [(4, .ref q9), (0, .ref (aI 0)), (1, .int x1), (2, .int x2), (3, .ref bo)]) hx hb dL_orderProperty_13 hl (by decide) rfl (fun ls hl => ?_)
      refine lv_iconst (v := 1) hx hb dL_orderProperty_15 (by decide) ?_
      exact ei hx hb hr hlocks hK hP hD hS b.symm rfl dL_orderProperty_16
    · rw [a] at hcl
      refine kc (k := 2) (pre := [⟨0, 10, 13, 21⟩]) (suf := []) hown ⟨0, 10, 17, 13⟩ htab hX (by decide) (by decide) (fun z hz => by
        rcases List.mem_singleton.mp hz with rfl
        · exact ⟨by decide, 1, by decide, by decide, by decide, hts _ (mC qg_L_21)⟩) rfl (by decide) (hts _ (mC qg_L_13)) hce hcv hcl ?_
      refine W.eq (g2 := F0 m 17 ls [.ref q9]) rfl ?_
      refine lv_astore (lv' := [(4, .ref q9), (0, .ref (aI 0)), (1, .int x1), (2, .int x2), (3, .ref bo)]) hx hb dL_orderProperty_17 hl (by decide) rfl (fun ls hl => ?_)
      refine lv_iconst (v := 2) hx hb dL_orderProperty_19 (by decide) ?_
      exact ei hx hb hr hlocks hK hP hD hS b.symm rfl dL_orderProperty_20
  · have ho1 : vp_updL o 0 (r'.toInt64) = o' := by rw [if_pos hk0] at ho; exact ho
    have hc0 : cd = 0 := by rcases hk with ⟨a, b⟩ | ⟨a, b⟩ | ⟨a, b⟩ <;> first | exact b | omega
    refine lv_i2l hx hb dL_orderProperty_8 rfl ?_
    refine s_la (ws1 := [(bo, .inl (cy 1, 1, .inr (.inl o')))] ++ ((W_All cy aI aT adP adS adB adO adR adA aP aS aB aO aR aA aH ah imT imdP indP imdS imdB imdO imdR imdA indA imP inP imS imB imO imR imA inA imH ihs) ++ [])) hx hb hK hP hD hS 0 rfl (show ¬ ((0 : Int32) < 0 ∨ 1 ≤ (0 : Int32).toNatClampNeg) by decide) (by rw [← ho1]; rfl) dL_orderProperty_9 (fun H locs hP hD hS => ?_)
    refine lv_goto (tgt := 21) hx hb dL_orderProperty_10 (by decide) ?_
    refine lv_iconst (v := 0) hx hb dL_orderProperty_21 (by decide) ?_
    exact ei hx hb hr hlocks hK hP hD hS hc0.symm rfl dL_orderProperty_22
abbrev rm_L_receipt : Room := { frames := 9, cells := 2, slots := 12, locals := 144 }
set_option maxHeartbeats 40000000 in
set_option maxRecDepth 100000 in
theorem c_L_receipt (l : Launch) (hst : l.stackTraces = false) (D : va_G) (cy : Nat → Nat) (aI aT adP adS adB adO adR adA aP aS aB aO aR aA aH : Nat → Nat) (ah : Nat → Nat → Nat → Nat) (bo : Nat) (x1 x2 : Int32) (imT : Mem) (imdP : Mem) (indP : MemL) (imdS : Mem) (imdB : Mem) (imdO : Mem) (imdR : Mem) (imdA : Mem) (indA : MemL) (imP : Mem) (inP : MemL) (imS : Mem) (imB : Mem) (imO : Mem) (imR : Mem) (imA : Mem) (inA : MemL) (imH : Mem) (ihs : (Nat → PSt)) (o o' : Nat → Int64) (k' : Nat) (r' : Int32)  (cd : Int32) (hk : k' = 0 ∧ cd = 0 ∨ k' = 1 ∧ cd = 1 ∨ k' = 2 ∧ cd = 2) (ho : (if k' = 0 then vp_updL o 0 r'.toInt64 else o) = o') (hE : f_X8_receipt x1 x2 imT imdP indP imdS imdB imdO imdR imdA indA imP inP imS imB imO imR imA inA imH ihs = some (k', r')) : CH l yL_receipt wsL_receipt rm_L_receipt D cy [.ref (aI 0), .int x1, .int x2, .ref bo] ([(bo, .inl (cy 1, 1, .inr (.inl o)))] ++ ((W_All cy aI aT adP adS adB adO adR adA aP aS aB aO aR aA aH ah imT imdP indP imdS imdB imdO imdR imdA indA imP inP imS imB imO imR imA inA imH ihs) ++ [])) 2 12 (QI D cy cd ([(bo, .inl (cy 1, 1, .inr (.inl o')))] ++ ((W_All cy aI aT adP adS adB adO adR adA aP aS aB aO aR aA aH ah imT imdP indP imdS imdB imdO imdR imdA indA imP inP imS imB imO imR imA inA imH ihs) ++ []))) := by
  refine CH_of (cc := cL_receipt) (maxL := 5) (ret := (some .int)) (hh := [(0, 10, 13, 21), (0, 10, 17, 13)]) (by decide) rfl (Nat.le_of_ble_eq_true rfl) (fun p e s m args below meth c A ls hx hb hr hml hlocks hown hts hA htab hK hN hX hP hD hS hl => ?_)
  have hown : s.vm.findClass RL = some m.cls := hown
  have hl : lv_has ls 5 [(0, .ref (aI 0)), (1, .int x1), (2, .int x2), (3, .ref bo)] := hl
  have hC : CallFix p m c cL_receipt 5 s args wsL_receipt RL := ⟨hx, hb, hml, hown, hts⟩
  refine lv_aload_n hx hb dL_receipt_0 rfl (lv_at hl 3 rfl) ?_
  refine lv_iconst (v := 0) hx hb dL_receipt_1 (by decide) ?_
  refine lv_aload_n hx hb dL_receipt_2 rfl (lv_at hl 0 rfl) ?_
  refine lv_iload_n hx hb dL_receipt_3 rfl (lv_at hl 1 rfl) ?_
  refine lv_iload_n hx hb dL_receipt_4 rfl (lv_at hl 2 rfl) ?_
  refine kxi (X := [(bo, .inl (cy 1, 1, .inr (.inl o)))]) (Y := []) (ws1 := [(bo, .inl (cy 1, 1, .inr (.inl o)))] ++ ((W_All cy aI aT adP adS adB adO adR adA aP aS aB aO aR aA aH ah imT imdP indP imdS imdB imdO imdR imdA indA imP inP imS imB imO imR imA inA imH ihs) ++ [])) (xV (X := [(bo, .inl (cy 1, 1, .inr (.inl o)))]) (Y := []) (As := [.int x1, .int x2]) (rest := [.int (0 : Int32), .ref bo]) hC (c_X8_receipt l hst D cy aI aT adP adS adB adO adR adA aP aS aB aO aR aA aH ah x1 x2 imT imdP indP imdS imdB imdO imdR imdA indA imP inP imS imB imO imR imA inA imH ihs k' r' hE) (cwV 2 hts gL_receipt_X8_receipt rfl rfl rfl cd_X8_receipt ⟨Nat.le_of_ble_eq_true rfl, Nat.le_of_ble_eq_true rfl⟩) hK hN hP hD hS hA rfl 0 8 rfl rfl rfl hl.1 rfl (lv_room (Nat.le_of_ble_eq_true rfl)) dL_receipt_5 ⟨Nat.le_of_ble_eq_true rfl, Nat.le_of_ble_eq_true rfl⟩) hP hD hS hA rfl (fst_All cy aI aT adP adS adB adO adR adA aP aS aB aO aR aA aH ah imT imdP indP imdS imdB imdO imdR imdA indA imP inP imS imB imO imR imA inA imH ihs imT imdP indP imdS imdB imdO imdR imdA indA imP inP imS imB imO imR imA inA imH ihs) rfl (fun hk0 H locs ce q9 hP hD hS hce hcv hcl => ?_) (fun hk0 H locs hP hD hS => ?_)
  · have ho1 : o = o' := by rw [if_neg hk0] at ho; exact ho
    rw [ho1] at hP hD
    rcases hk with ⟨a, b⟩ | ⟨a, b⟩ | ⟨a, b⟩
    · exact absurd a hk0
    · rw [a] at hcl
      refine kc (k := 1) (pre := []) (suf := [⟨0, 10, 17, 13⟩]) hown ⟨0, 10, 13, 21⟩ htab hX (by decide) (by decide) (fun z hz => absurd hz List.not_mem_nil) rfl (by decide) (hts _ (mC qg_L_21)) hce hcv hcl ?_
      refine W.eq (g2 := F0 m 13 ls [.ref q9]) rfl ?_
      refine lv_astore (lv' := [(4, .ref q9), (0, .ref (aI 0)), (1, .int x1), (2, .int x2), (3, .ref bo)]) hx hb dL_receipt_13 hl (by decide) rfl (fun ls hl => ?_)
      refine lv_iconst (v := 1) hx hb dL_receipt_15 (by decide) ?_
      exact ei hx hb hr hlocks hK hP hD hS b.symm rfl dL_receipt_16
    · rw [a] at hcl
      refine kc (k := 2) (pre := [⟨0, 10, 13, 21⟩]) (suf := []) hown ⟨0, 10, 17, 13⟩ htab hX (by decide) (by decide) (fun z hz => by
        rcases List.mem_singleton.mp hz with rfl
        · exact ⟨by decide, 1, by decide, by decide, by decide, hts _ (mC qg_L_21)⟩) rfl (by decide) (hts _ (mC qg_L_13)) hce hcv hcl ?_
      refine W.eq (g2 := F0 m 17 ls [.ref q9]) rfl ?_
      refine lv_astore (lv' := [(4, .ref q9), (0, .ref (aI 0)), (1, .int x1), (2, .int x2), (3, .ref bo)]) hx hb dL_receipt_17 hl (by decide) rfl (fun ls hl => ?_)
      refine lv_iconst (v := 2) hx hb dL_receipt_19 (by decide) ?_
      exact ei hx hb hr hlocks hK hP hD hS b.symm rfl dL_receipt_20
  · have ho1 : vp_updL o 0 (r'.toInt64) = o' := by rw [if_pos hk0] at ho; exact ho
    have hc0 : cd = 0 := by rcases hk with ⟨a, b⟩ | ⟨a, b⟩ | ⟨a, b⟩ <;> first | exact b | omega
    refine lv_i2l hx hb dL_receipt_8 rfl ?_
    refine s_la (ws1 := [(bo, .inl (cy 1, 1, .inr (.inl o')))] ++ ((W_All cy aI aT adP adS adB adO adR adA aP aS aB aO aR aA aH ah imT imdP indP imdS imdB imdO imdR imdA indA imP inP imS imB imO imR imA inA imH ihs) ++ [])) hx hb hK hP hD hS 0 rfl (show ¬ ((0 : Int32) < 0 ∨ 1 ≤ (0 : Int32).toNatClampNeg) by decide) (by rw [← ho1]; rfl) dL_receipt_9 (fun H locs hP hD hS => ?_)
    refine lv_goto (tgt := 21) hx hb dL_receipt_10 (by decide) ?_
    refine lv_iconst (v := 0) hx hb dL_receipt_21 (by decide) ?_
    exact ei hx hb hr hlocks hK hP hD hS hc0.symm rfl dL_receipt_22
abbrev rm_L_account : Room := { frames := 9, cells := 2, slots := 12, locals := 144 }
set_option maxHeartbeats 40000000 in
set_option maxRecDepth 100000 in
theorem c_L_account (l : Launch) (hst : l.stackTraces = false) (D : va_G) (cy : Nat → Nat) (aI aT adP adS adB adO adR adA aP aS aB aO aR aA aH : Nat → Nat) (ah : Nat → Nat → Nat → Nat) (bo : Nat) (x1 x2 : Int32) (imT : Mem) (imdP : Mem) (indP : MemL) (imdS : Mem) (imdB : Mem) (imdO : Mem) (imdR : Mem) (imdA : Mem) (indA : MemL) (imP : Mem) (inP : MemL) (imS : Mem) (imB : Mem) (imO : Mem) (imR : Mem) (imA : Mem) (inA : MemL) (imH : Mem) (ihs : (Nat → PSt)) (o o' : Nat → Int64) (k' : Nat) (r' : Int64)  (cd : Int32) (hk : k' = 0 ∧ cd = 0 ∨ k' = 1 ∧ cd = 1 ∨ k' = 2 ∧ cd = 2) (ho : (if k' = 0 then vp_updL o 0 r' else o) = o') (hE : f_X8_account x1 x2 imT imdP indP imdS imdB imdO imdR imdA indA imP inP imS imB imO imR imA inA imH ihs = some (k', r')) : CH l yL_account wsL_account rm_L_account D cy [.ref (aI 0), .int x1, .int x2, .ref bo] ([(bo, .inl (cy 1, 1, .inr (.inl o)))] ++ ((W_All cy aI aT adP adS adB adO adR adA aP aS aB aO aR aA aH ah imT imdP indP imdS imdB imdO imdR imdA indA imP inP imS imB imO imR imA inA imH ihs) ++ [])) 2 12 (QI D cy cd ([(bo, .inl (cy 1, 1, .inr (.inl o')))] ++ ((W_All cy aI aT adP adS adB adO adR adA aP aS aB aO aR aA aH ah imT imdP indP imdS imdB imdO imdR imdA indA imP inP imS imB imO imR imA inA imH ihs) ++ []))) := by
  refine CH_of (cc := cL_account) (maxL := 5) (ret := (some .int)) (hh := [(0, 9, 12, 21), (0, 9, 16, 13)]) (by decide) rfl (Nat.le_of_ble_eq_true rfl) (fun p e s m args below meth c A ls hx hb hr hml hlocks hown hts hA htab hK hN hX hP hD hS hl => ?_)
  have hown : s.vm.findClass RL = some m.cls := hown
  have hl : lv_has ls 5 [(0, .ref (aI 0)), (1, .int x1), (2, .int x2), (3, .ref bo)] := hl
  have hC : CallFix p m c cL_account 5 s args wsL_account RL := ⟨hx, hb, hml, hown, hts⟩
  refine lv_aload_n hx hb dL_account_0 rfl (lv_at hl 3 rfl) ?_
  refine lv_iconst (v := 0) hx hb dL_account_1 (by decide) ?_
  refine lv_aload_n hx hb dL_account_2 rfl (lv_at hl 0 rfl) ?_
  refine lv_iload_n hx hb dL_account_3 rfl (lv_at hl 1 rfl) ?_
  refine lv_iload_n hx hb dL_account_4 rfl (lv_at hl 2 rfl) ?_
  refine kxl (X := [(bo, .inl (cy 1, 1, .inr (.inl o)))]) (Y := []) (ws1 := [(bo, .inl (cy 1, 1, .inr (.inl o)))] ++ ((W_All cy aI aT adP adS adB adO adR adA aP aS aB aO aR aA aH ah imT imdP indP imdS imdB imdO imdR imdA indA imP inP imS imB imO imR imA inA imH ihs) ++ [])) (xV (X := [(bo, .inl (cy 1, 1, .inr (.inl o)))]) (Y := []) (As := [.int x1, .int x2]) (rest := [.int (0 : Int32), .ref bo]) hC (c_X8_account l hst D cy aI aT adP adS adB adO adR adA aP aS aB aO aR aA aH ah x1 x2 imT imdP indP imdS imdB imdO imdR imdA indA imP inP imS imB imO imR imA inA imH ihs k' r' hE) (cwV 2 hts gL_account_X8_account rfl rfl rfl cd_X8_account ⟨Nat.le_of_ble_eq_true rfl, Nat.le_of_ble_eq_true rfl⟩) hK hN hP hD hS hA rfl 0 8 rfl rfl rfl hl.1 rfl (lv_room (Nat.le_of_ble_eq_true rfl)) dL_account_5 ⟨Nat.le_of_ble_eq_true rfl, Nat.le_of_ble_eq_true rfl⟩) hP hD hS hA rfl (fst_All cy aI aT adP adS adB adO adR adA aP aS aB aO aR aA aH ah imT imdP indP imdS imdB imdO imdR imdA indA imP inP imS imB imO imR imA inA imH ihs imT imdP indP imdS imdB imdO imdR imdA indA imP inP imS imB imO imR imA inA imH ihs) rfl (fun hk0 H locs ce q9 hP hD hS hce hcv hcl => ?_) (fun hk0 H locs hP hD hS => ?_)
  · have ho1 : o = o' := by rw [if_neg hk0] at ho; exact ho
    rw [ho1] at hP hD
    rcases hk with ⟨a, b⟩ | ⟨a, b⟩ | ⟨a, b⟩
    · exact absurd a hk0
    · rw [a] at hcl
      refine kc (k := 1) (pre := []) (suf := [⟨0, 9, 16, 13⟩]) hown ⟨0, 9, 12, 21⟩ htab hX (by decide) (by decide) (fun z hz => absurd hz List.not_mem_nil) rfl (by decide) (hts _ (mC qg_L_21)) hce hcv hcl ?_
      refine W.eq (g2 := F0 m 12 ls [.ref q9]) rfl ?_
      refine lv_astore (lv' := [(4, .ref q9), (0, .ref (aI 0)), (1, .int x1), (2, .int x2), (3, .ref bo)]) hx hb dL_account_12 hl (by decide) rfl (fun ls hl => ?_)
      refine lv_iconst (v := 1) hx hb dL_account_14 (by decide) ?_
      exact ei hx hb hr hlocks hK hP hD hS b.symm rfl dL_account_15
    · rw [a] at hcl
      refine kc (k := 2) (pre := [⟨0, 9, 12, 21⟩]) (suf := []) hown ⟨0, 9, 16, 13⟩ htab hX (by decide) (by decide) (fun z hz => by
        rcases List.mem_singleton.mp hz with rfl
        · exact ⟨by decide, 1, by decide, by decide, by decide, hts _ (mC qg_L_21)⟩) rfl (by decide) (hts _ (mC qg_L_13)) hce hcv hcl ?_
      refine W.eq (g2 := F0 m 16 ls [.ref q9]) rfl ?_
      refine lv_astore (lv' := [(4, .ref q9), (0, .ref (aI 0)), (1, .int x1), (2, .int x2), (3, .ref bo)]) hx hb dL_account_16 hl (by decide) rfl (fun ls hl => ?_)
      refine lv_iconst (v := 2) hx hb dL_account_18 (by decide) ?_
      exact ei hx hb hr hlocks hK hP hD hS b.symm rfl dL_account_19
  · have ho1 : vp_updL o 0 r' = o' := by rw [if_pos hk0] at ho; exact ho
    have hc0 : cd = 0 := by rcases hk with ⟨a, b⟩ | ⟨a, b⟩ | ⟨a, b⟩ <;> first | exact b | omega
    refine s_la (ws1 := [(bo, .inl (cy 1, 1, .inr (.inl o')))] ++ ((W_All cy aI aT adP adS adB adO adR adA aP aS aB aO aR aA aH ah imT imdP indP imdS imdB imdO imdR imdA indA imP inP imS imB imO imR imA inA imH ihs) ++ [])) hx hb hK hP hD hS 0 rfl (show ¬ ((0 : Int32) < 0 ∨ 1 ≤ (0 : Int32).toNatClampNeg) by decide) (by rw [← ho1]; rfl) dL_account_8 (fun H locs hP hD hS => ?_)
    refine lv_goto (tgt := 20) hx hb dL_account_9 (by decide) ?_
    refine lv_iconst (v := 0) hx hb dL_account_20 (by decide) ?_
    exact ei hx hb hr hlocks hK hP hD hS hc0.symm rfl dL_account_21
abbrev rm_L_findAccount : Room := { frames := 9, cells := 2, slots := 12, locals := 144 }
set_option maxHeartbeats 40000000 in
set_option maxRecDepth 100000 in
theorem c_L_findAccount (l : Launch) (hst : l.stackTraces = false) (D : va_G) (cy : Nat → Nat) (aI aT adP adS adB adO adR adA aP aS aB aO aR aA aH : Nat → Nat) (ah : Nat → Nat → Nat → Nat) (bo : Nat) (x1 x2 : Int32) (imT : Mem) (imdP : Mem) (indP : MemL) (imdS : Mem) (imdB : Mem) (imdO : Mem) (imdR : Mem) (imdA : Mem) (indA : MemL) (imP : Mem) (inP : MemL) (imS : Mem) (imB : Mem) (imO : Mem) (imR : Mem) (imA : Mem) (inA : MemL) (imH : Mem) (ihs : (Nat → PSt)) (o o' : Nat → Int64) (k' : Nat) (r' : Int32)  (cd : Int32) (hk : k' = 0 ∧ cd = 0 ∨ k' = 1 ∧ cd = 1 ∨ k' = 2 ∧ cd = 2) (ho : (if k' = 0 then vp_updL o 0 r'.toInt64 else o) = o') (hE : f_X8_findAccount x1 x2 imT imdP indP imdS imdB imdO imdR imdA indA imP inP imS imB imO imR imA inA imH ihs = some (k', r')) : CH l yL_findAccount wsL_findAccount rm_L_findAccount D cy [.ref (aI 0), .int x1, .int x2, .ref bo] ([(bo, .inl (cy 1, 1, .inr (.inl o)))] ++ ((W_All cy aI aT adP adS adB adO adR adA aP aS aB aO aR aA aH ah imT imdP indP imdS imdB imdO imdR imdA indA imP inP imS imB imO imR imA inA imH ihs) ++ [])) 2 12 (QI D cy cd ([(bo, .inl (cy 1, 1, .inr (.inl o')))] ++ ((W_All cy aI aT adP adS adB adO adR adA aP aS aB aO aR aA aH ah imT imdP indP imdS imdB imdO imdR imdA indA imP inP imS imB imO imR imA inA imH ihs) ++ []))) := by
  refine CH_of (cc := cL_findAccount) (maxL := 5) (ret := (some .int)) (hh := [(0, 10, 13, 21), (0, 10, 17, 13)]) (by decide) rfl (Nat.le_of_ble_eq_true rfl) (fun p e s m args below meth c A ls hx hb hr hml hlocks hown hts hA htab hK hN hX hP hD hS hl => ?_)
  have hown : s.vm.findClass RL = some m.cls := hown
  have hl : lv_has ls 5 [(0, .ref (aI 0)), (1, .int x1), (2, .int x2), (3, .ref bo)] := hl
  have hC : CallFix p m c cL_findAccount 5 s args wsL_findAccount RL := ⟨hx, hb, hml, hown, hts⟩
  refine lv_aload_n hx hb dL_findAccount_0 rfl (lv_at hl 3 rfl) ?_
  refine lv_iconst (v := 0) hx hb dL_findAccount_1 (by decide) ?_
  refine lv_aload_n hx hb dL_findAccount_2 rfl (lv_at hl 0 rfl) ?_
  refine lv_iload_n hx hb dL_findAccount_3 rfl (lv_at hl 1 rfl) ?_
  refine lv_iload_n hx hb dL_findAccount_4 rfl (lv_at hl 2 rfl) ?_
  refine kxi (X := [(bo, .inl (cy 1, 1, .inr (.inl o)))]) (Y := []) (ws1 := [(bo, .inl (cy 1, 1, .inr (.inl o)))] ++ ((W_All cy aI aT adP adS adB adO adR adA aP aS aB aO aR aA aH ah imT imdP indP imdS imdB imdO imdR imdA indA imP inP imS imB imO imR imA inA imH ihs) ++ [])) (xV (X := [(bo, .inl (cy 1, 1, .inr (.inl o)))]) (Y := []) (As := [.int x1, .int x2]) (rest := [.int (0 : Int32), .ref bo]) hC (c_X8_findAccount l hst D cy aI aT adP adS adB adO adR adA aP aS aB aO aR aA aH ah x1 x2 imT imdP indP imdS imdB imdO imdR imdA indA imP inP imS imB imO imR imA inA imH ihs k' r' hE) (cwV 2 hts gL_findAccount_X8_findAccount rfl rfl rfl cd_X8_findAccount ⟨Nat.le_of_ble_eq_true rfl, Nat.le_of_ble_eq_true rfl⟩) hK hN hP hD hS hA rfl 0 8 rfl rfl rfl hl.1 rfl (lv_room (Nat.le_of_ble_eq_true rfl)) dL_findAccount_5 ⟨Nat.le_of_ble_eq_true rfl, Nat.le_of_ble_eq_true rfl⟩) hP hD hS hA rfl (fst_All cy aI aT adP adS adB adO adR adA aP aS aB aO aR aA aH ah imT imdP indP imdS imdB imdO imdR imdA indA imP inP imS imB imO imR imA inA imH ihs imT imdP indP imdS imdB imdO imdR imdA indA imP inP imS imB imO imR imA inA imH ihs) rfl (fun hk0 H locs ce q9 hP hD hS hce hcv hcl => ?_) (fun hk0 H locs hP hD hS => ?_)
  · have ho1 : o = o' := by rw [if_neg hk0] at ho; exact ho
    rw [ho1] at hP hD
    rcases hk with ⟨a, b⟩ | ⟨a, b⟩ | ⟨a, b⟩
    · exact absurd a hk0
    · rw [a] at hcl
      refine kc (k := 1) (pre := []) (suf := [⟨0, 10, 17, 13⟩]) hown ⟨0, 10, 13, 21⟩ htab hX (by decide) (by decide) (fun z hz => absurd hz List.not_mem_nil) rfl (by decide) (hts _ (mC qg_L_21)) hce hcv hcl ?_
      refine W.eq (g2 := F0 m 13 ls [.ref q9]) rfl ?_
      refine lv_astore (lv' := [(4, .ref q9), (0, .ref (aI 0)), (1, .int x1), (2, .int x2), (3, .ref bo)]) hx hb dL_findAccount_13 hl (by decide) rfl (fun ls hl => ?_)
      refine lv_iconst (v := 1) hx hb dL_findAccount_15 (by decide) ?_
      exact ei hx hb hr hlocks hK hP hD hS b.symm rfl dL_findAccount_16
    · rw [a] at hcl
      refine kc (k := 2) (pre := [⟨0, 10, 13, 21⟩]) (suf := []) hown ⟨0, 10, 17, 13⟩ htab hX (by decide) (by decide) (fun z hz => by
        rcases List.mem_singleton.mp hz with rfl
        · exact ⟨by decide, 1, by decide, by decide, by decide, hts _ (mC qg_L_21)⟩) rfl (by decide) (hts _ (mC qg_L_13)) hce hcv hcl ?_
      refine W.eq (g2 := F0 m 17 ls [.ref q9]) rfl ?_
      refine lv_astore (lv' := [(4, .ref q9), (0, .ref (aI 0)), (1, .int x1), (2, .int x2), (3, .ref bo)]) hx hb dL_findAccount_17 hl (by decide) rfl (fun ls hl => ?_)
      refine lv_iconst (v := 2) hx hb dL_findAccount_19 (by decide) ?_
      exact ei hx hb hr hlocks hK hP hD hS b.symm rfl dL_findAccount_20
  · have ho1 : vp_updL o 0 (r'.toInt64) = o' := by rw [if_pos hk0] at ho; exact ho
    have hc0 : cd = 0 := by rcases hk with ⟨a, b⟩ | ⟨a, b⟩ | ⟨a, b⟩ <;> first | exact b | omega
    refine lv_i2l hx hb dL_findAccount_8 rfl ?_
    refine s_la (ws1 := [(bo, .inl (cy 1, 1, .inr (.inl o')))] ++ ((W_All cy aI aT adP adS adB adO adR adA aP aS aB aO aR aA aH ah imT imdP indP imdS imdB imdO imdR imdA indA imP inP imS imB imO imR imA inA imH ihs) ++ [])) hx hb hK hP hD hS 0 rfl (show ¬ ((0 : Int32) < 0 ∨ 1 ≤ (0 : Int32).toNatClampNeg) by decide) (by rw [← ho1]; rfl) dL_findAccount_9 (fun H locs hP hD hS => ?_)
    refine lv_goto (tgt := 21) hx hb dL_findAccount_10 (by decide) ?_
    refine lv_iconst (v := 0) hx hb dL_findAccount_21 (by decide) ?_
    exact ei hx hb hr hlocks hK hP hD hS hc0.symm rfl dL_findAccount_22
abbrev rm_L_setting : Room := { frames := 9, cells := 1, slots := 6, locals := 143 }
set_option maxHeartbeats 40000000 in
set_option maxRecDepth 100000 in
theorem c_L_setting (l : Launch) (hst : l.stackTraces = false) (D : va_G) (cy : Nat → Nat) (aI aT adP adS adB adO adR adA aP aS aB aO aR aA aH : Nat → Nat) (ah : Nat → Nat → Nat → Nat) (bo : Nat) (x1 : Int32) (imT : Mem) (imdP : Mem) (indP : MemL) (imdS : Mem) (imdB : Mem) (imdO : Mem) (imdR : Mem) (imdA : Mem) (indA : MemL) (imP : Mem) (inP : MemL) (imS : Mem) (imB : Mem) (imO : Mem) (imR : Mem) (imA : Mem) (inA : MemL) (imH : Mem) (ihs : (Nat → PSt)) (o o' : Nat → Int64) (k' : Nat) (r' : Int32)  (cd : Int32) (hk : k' = 0 ∧ cd = 0 ∨ k' = 1 ∧ cd = 1) (ho : (if k' = 0 then vp_updL o 0 r'.toInt64 else o) = o') (hE : f_X8_setting x1 imT imdP indP imdS imdB imdO imdR imdA indA imP inP imS imB imO imR imA inA imH ihs = some (k', r')) : CH l yL_setting wsL_setting rm_L_setting D cy [.ref (aI 0), .int x1, .ref bo] ([(bo, .inl (cy 1, 1, .inr (.inl o)))] ++ ((W_All cy aI aT adP adS adB adO adR adA aP aS aB aO aR aA aH ah imT imdP indP imdS imdB imdO imdR imdA indA imP inP imS imB imO imR imA inA imH ihs) ++ [])) 1 6 (QI D cy cd ([(bo, .inl (cy 1, 1, .inr (.inl o')))] ++ ((W_All cy aI aT adP adS adB adO adR adA aP aS aB aO aR aA aH ah imT imdP indP imdS imdB imdO imdR imdA indA imP inP imS imB imO imR imA inA imH ihs) ++ []))) := by
  refine CH_of (cc := cL_setting) (maxL := 4) (ret := (some .int)) (hh := [(0, 9, 12, 21)]) (by decide) rfl (Nat.le_of_ble_eq_true rfl) (fun p e s m args below meth c A ls hx hb hr hml hlocks hown hts hA htab hK hN hX hP hD hS hl => ?_)
  have hown : s.vm.findClass RL = some m.cls := hown
  have hl : lv_has ls 4 [(0, .ref (aI 0)), (1, .int x1), (2, .ref bo)] := hl
  have hC : CallFix p m c cL_setting 4 s args wsL_setting RL := ⟨hx, hb, hml, hown, hts⟩
  refine lv_aload_n hx hb dL_setting_0 rfl (lv_at hl 2 rfl) ?_
  refine lv_iconst (v := 0) hx hb dL_setting_1 (by decide) ?_
  refine lv_aload_n hx hb dL_setting_2 rfl (lv_at hl 0 rfl) ?_
  refine lv_iload_n hx hb dL_setting_3 rfl (lv_at hl 1 rfl) ?_
  refine kxi (X := [(bo, .inl (cy 1, 1, .inr (.inl o)))]) (Y := []) (ws1 := [(bo, .inl (cy 1, 1, .inr (.inl o)))] ++ ((W_All cy aI aT adP adS adB adO adR adA aP aS aB aO aR aA aH ah imT imdP indP imdS imdB imdO imdR imdA indA imP inP imS imB imO imR imA inA imH ihs) ++ [])) (xV (X := [(bo, .inl (cy 1, 1, .inr (.inl o)))]) (Y := []) (As := [.int x1]) (rest := [.int (0 : Int32), .ref bo]) hC (c_X8_setting l hst D cy aI aT adP adS adB adO adR adA aP aS aB aO aR aA aH ah x1 imT imdP indP imdS imdB imdO imdR imdA indA imP inP imS imB imO imR imA inA imH ihs k' r' hE) (cwV 1 hts gL_setting_X8_setting rfl rfl rfl cd_X8_setting ⟨Nat.le_of_ble_eq_true rfl, Nat.le_of_ble_eq_true rfl⟩) hK hN hP hD hS hA rfl 0 8 rfl rfl rfl hl.1 rfl (lv_room (Nat.le_of_ble_eq_true rfl)) dL_setting_4 ⟨Nat.le_of_ble_eq_true rfl, Nat.le_of_ble_eq_true rfl⟩) hP hD hS hA rfl (fst_All cy aI aT adP adS adB adO adR adA aP aS aB aO aR aA aH ah imT imdP indP imdS imdB imdO imdR imdA indA imP inP imS imB imO imR imA inA imH ihs imT imdP indP imdS imdB imdO imdR imdA indA imP inP imS imB imO imR imA inA imH ihs) rfl (fun hk0 H locs ce q9 hP hD hS hce hcv hcl => ?_) (fun hk0 H locs hP hD hS => ?_)
  · have ho1 : o = o' := by rw [if_neg hk0] at ho; exact ho
    rw [ho1] at hP hD
    rcases hk with ⟨a, b⟩ | ⟨a, b⟩
    · exact absurd a hk0
    · rw [a] at hcl
      refine kc (k := 1) (pre := []) (suf := []) hown ⟨0, 9, 12, 21⟩ htab hX (by decide) (by decide) (fun z hz => absurd hz List.not_mem_nil) rfl (by decide) (hts _ (mC qg_L_21)) hce hcv hcl ?_
      refine W.eq (g2 := F0 m 12 ls [.ref q9]) rfl ?_
      refine lv_astore_n (lv' := [(3, .ref q9), (0, .ref (aI 0)), (1, .int x1), (2, .ref bo)]) hx hb dL_setting_12 rfl hl (by decide) rfl (fun ls hl => ?_)
      refine lv_iconst (v := 1) hx hb dL_setting_13 (by decide) ?_
      exact ei hx hb hr hlocks hK hP hD hS b.symm rfl dL_setting_14
  · have ho1 : vp_updL o 0 (r'.toInt64) = o' := by rw [if_pos hk0] at ho; exact ho
    have hc0 : cd = 0 := by rcases hk with ⟨a, b⟩ | ⟨a, b⟩ <;> first | exact b | omega
    refine lv_i2l hx hb dL_setting_7 rfl ?_
    refine s_la (ws1 := [(bo, .inl (cy 1, 1, .inr (.inl o')))] ++ ((W_All cy aI aT adP adS adB adO adR adA aP aS aB aO aR aA aH ah imT imdP indP imdS imdB imdO imdR imdA indA imP inP imS imB imO imR imA inA imH ihs) ++ [])) hx hb hK hP hD hS 0 rfl (show ¬ ((0 : Int32) < 0 ∨ 1 ≤ (0 : Int32).toNatClampNeg) by decide) (by rw [← ho1]; rfl) dL_setting_8 (fun H locs hP hD hS => ?_)
    refine lv_goto (tgt := 15) hx hb dL_setting_9 (by decide) ?_
    refine lv_iconst (v := 0) hx hb dL_setting_15 (by decide) ?_
    exact ei hx hb hr hlocks hK hP hD hS hc0.symm rfl dL_setting_16
