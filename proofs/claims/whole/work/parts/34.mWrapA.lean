abbrev rm_L_addSilo : Room := { frames := 9, cells := 4, slots := 24, locals := 145 }
set_option maxHeartbeats 40000000 in
set_option maxRecDepth 100000 in
theorem c_L_addSilo (l : Launch) (hst : l.stackTraces = false) (D : va_G) (cy : Nat → Nat) (aI aT adP adS adB adO adR adA aP aS aB aO aR aA aH : Nat → Nat) (ah : Nat → Nat → Nat → Nat) (bo : Nat) (x1 x2 x3 : Int32) (imT : Mem) (imdP : Mem) (indP : MemL) (imdS : Mem) (imdB : Mem) (imdO : Mem) (imdR : Mem) (imdA : Mem) (indA : MemL) (imP : Mem) (inP : MemL) (imS : Mem) (imB : Mem) (imO : Mem) (imR : Mem) (imA : Mem) (inA : MemL) (imH : Mem) (ihs : (Nat → PSt)) (o o' : Nat → Int64) (k' : Nat) (r' : Int32) (mS' : Mem) (mH' : Mem) (hs' : (Nat → PSt)) (cd : Int32) (hk : k' = 0 ∧ cd = 0 ∨ k' = 2 ∧ cd = 1 ∨ k' = 3 ∧ cd = 2) (ho : (if k' = 0 then vp_updL o 0 r'.toInt64 else o) = o') (hE : f_X8_addSilo x1 x2 x3 imT imdP indP imdS imdB imdO imdR imdA indA imP inP imS imB imO imR imA inA imH ihs = some (k', r', mS', mH', hs')) : CH l yL_addSilo wsL_addSilo rm_L_addSilo D cy [.ref (aI 0), .int x1, .int x2, .int x3, .ref bo] ([(bo, .inl (cy 1, 1, .inr (.inl o)))] ++ ((W_All cy aI aT adP adS adB adO adR adA aP aS aB aO aR aA aH ah imT imdP indP imdS imdB imdO imdR imdA indA imP inP imS imB imO imR imA inA imH ihs) ++ [])) 4 24 (QI D cy cd ([(bo, .inl (cy 1, 1, .inr (.inl o')))] ++ ((W_All cy aI aT adP adS adB adO adR adA aP aS aB aO aR aA aH ah imT imdP indP imdS imdB imdO imdR imdA indA imP inP mS' imB imO imR imA inA mH' hs') ++ []))) := by
  refine CH_of (cc := cL_addSilo) (maxL := 6) (ret := (some .int)) (hh := [(0, 12, 15, 13), (0, 12, 19, 15)]) (by decide) rfl (Nat.le_of_ble_eq_true rfl) (fun p e s m args below meth c A ls hx hb hr hml hlocks hown hts hA htab hK hN hX hP hD hS hl => ?_)
  have hown : s.vm.findClass RL = some m.cls := hown
  have hl : lv_has ls 6 [(0, .ref (aI 0)), (1, .int x1), (2, .int x2), (3, .int x3), (4, .ref bo)] := hl
  have hC : CallFix p m c cL_addSilo 6 s args wsL_addSilo RL := ⟨hx, hb, hml, hown, hts⟩
  refine lv_aload hx hb dL_addSilo_0 (lv_at hl 4 rfl) ?_
  refine lv_iconst (v := 0) hx hb dL_addSilo_2 (by decide) ?_
  refine lv_aload_n hx hb dL_addSilo_3 rfl (lv_at hl 0 rfl) ?_
  refine lv_iload_n hx hb dL_addSilo_4 rfl (lv_at hl 1 rfl) ?_
  refine lv_iload_n hx hb dL_addSilo_5 rfl (lv_at hl 2 rfl) ?_
  refine lv_iload_n hx hb dL_addSilo_6 rfl (lv_at hl 3 rfl) ?_
  refine kxi (X := [(bo, .inl (cy 1, 1, .inr (.inl o)))]) (Y := []) (ws1 := [(bo, .inl (cy 1, 1, .inr (.inl o)))] ++ ((W_All cy aI aT adP adS adB adO adR adA aP aS aB aO aR aA aH ah imT imdP indP imdS imdB imdO imdR imdA indA imP inP mS' imB imO imR imA inA mH' hs') ++ [])) (xV (X := [(bo, .inl (cy 1, 1, .inr (.inl o)))]) (Y := []) (As := [.int x1, .int x2, .int x3]) (rest := [.int (0 : Int32), .ref bo]) hC (c_X8_addSilo l hst D cy aI aT adP adS adB adO adR adA aP aS aB aO aR aA aH ah x1 x2 x3 imT imdP indP imdS imdB imdO imdR imdA indA imP inP imS imB imO imR imA inA imH ihs k' r' mS' mH' hs' hE) (cwV 3 hts gL_addSilo_X8_addSilo rfl rfl rfl cd_X8_addSilo ⟨Nat.le_of_ble_eq_true rfl, Nat.le_of_ble_eq_true rfl⟩) hK hN hP hD hS hA rfl 0 8 rfl rfl rfl hl.1 rfl (lv_room (Nat.le_of_ble_eq_true rfl)) dL_addSilo_7 ⟨Nat.le_of_ble_eq_true rfl, Nat.le_of_ble_eq_true rfl⟩) hP hD hS hA rfl (fst_All cy aI aT adP adS adB adO adR adA aP aS aB aO aR aA aH ah imT imdP indP imdS imdB imdO imdR imdA indA imP inP imS imB imO imR imA inA imH ihs imT imdP indP imdS imdB imdO imdR imdA indA imP inP mS' imB imO imR imA inA mH' hs') rfl (fun hk0 H locs ce q9 hP hD hS hce hcv hcl => ?_) (fun hk0 H locs hP hD hS => ?_)
  · have ho1 : o = o' := by rw [if_neg hk0] at ho; exact ho
    rw [ho1] at hP hD
    rcases hk with ⟨a, b⟩ | ⟨a, b⟩ | ⟨a, b⟩
    · exact absurd a hk0
    · rw [a] at hcl
      refine kc (k := 2) (pre := []) (suf := [⟨0, 12, 19, 15⟩]) hown ⟨0, 12, 15, 13⟩ htab hX (by decide) (by decide) (fun z hz => absurd hz List.not_mem_nil) rfl (by decide) (hts _ (mC qg_L_13)) hce hcv hcl ?_
      refine W.eq (g2 := F0 m 15 ls [.ref q9]) rfl ?_
      refine lv_astore (lv' := [(5, .ref q9), (0, .ref (aI 0)), (1, .int x1), (2, .int x2), (3, .int x3), (4, .ref bo)]) hx hb dL_addSilo_15 hl (by decide) rfl (fun ls hl => ?_)
      refine lv_iconst (v := 1) hx hb dL_addSilo_17 (by decide) ?_
      exact ei hx hb hr hlocks hK hP hD hS b.symm rfl dL_addSilo_18
    · rw [a] at hcl
      refine kc (k := 3) (pre := [⟨0, 12, 15, 13⟩]) (suf := []) hown ⟨0, 12, 19, 15⟩ htab hX (by decide) (by decide) (fun z hz => by
        rcases List.mem_singleton.mp hz with rfl
        · exact ⟨by decide, 2, by decide, by decide, by decide, hts _ (mC qg_L_13)⟩) rfl (by decide) (hts _ (mC qg_L_15)) hce hcv hcl ?_
      refine W.eq (g2 := F0 m 19 ls [.ref q9]) rfl ?_
      refine lv_astore (lv' := [(5, .ref q9), (0, .ref (aI 0)), (1, .int x1), (2, .int x2), (3, .int x3), (4, .ref bo)]) hx hb dL_addSilo_19 hl (by decide) rfl (fun ls hl => ?_)
      refine lv_iconst (v := 2) hx hb dL_addSilo_21 (by decide) ?_
      exact ei hx hb hr hlocks hK hP hD hS b.symm rfl dL_addSilo_22
  · have ho1 : vp_updL o 0 (r'.toInt64) = o' := by rw [if_pos hk0] at ho; exact ho
    have hc0 : cd = 0 := by rcases hk with ⟨a, b⟩ | ⟨a, b⟩ | ⟨a, b⟩ <;> first | exact b | omega
    refine lv_i2l hx hb dL_addSilo_10 rfl ?_
    refine s_la (ws1 := [(bo, .inl (cy 1, 1, .inr (.inl o')))] ++ ((W_All cy aI aT adP adS adB adO adR adA aP aS aB aO aR aA aH ah imT imdP indP imdS imdB imdO imdR imdA indA imP inP mS' imB imO imR imA inA mH' hs') ++ [])) hx hb hK hP hD hS 0 rfl (show ¬ ((0 : Int32) < 0 ∨ 1 ≤ (0 : Int32).toNatClampNeg) by decide) (by rw [← ho1]; rfl) dL_addSilo_11 (fun H locs hP hD hS => ?_)
    refine lv_goto (tgt := 23) hx hb dL_addSilo_12 (by decide) ?_
    refine lv_iconst (v := 0) hx hb dL_addSilo_23 (by decide) ?_
    exact ei hx hb hr hlocks hK hP hD hS hc0.symm rfl dL_addSilo_24
abbrev rm_L_setRule : Room := { frames := 9, cells := 2, slots := 12, locals := 144 }
set_option maxHeartbeats 40000000 in
set_option maxRecDepth 100000 in
theorem c_L_setRule (l : Launch) (hst : l.stackTraces = false) (D : va_G) (cy : Nat → Nat) (aI aT adP adS adB adO adR adA aP aS aB aO aR aA aH : Nat → Nat) (ah : Nat → Nat → Nat → Nat) (bo : Nat) (x1 x2 : Int32) (imT : Mem) (imdP : Mem) (indP : MemL) (imdS : Mem) (imdB : Mem) (imdO : Mem) (imdR : Mem) (imdA : Mem) (indA : MemL) (imP : Mem) (inP : MemL) (imS : Mem) (imB : Mem) (imO : Mem) (imR : Mem) (imA : Mem) (inA : MemL) (imH : Mem) (ihs : (Nat → PSt)) (o o' : Nat → Int64) (k' : Nat) (r' : Int32) (mS' : Mem) (mH' : Mem) (hs' : (Nat → PSt)) (cd : Int32) (hk : k' = 0 ∧ cd = 0 ∨ k' = 1 ∧ cd = 1 ∨ k' = 2 ∧ cd = 2) (ho : (if k' = 0 then vp_updL o 0 r'.toInt64 else o) = o') (hE : f_X8_setRule x1 x2 imT imdP indP imdS imdB imdO imdR imdA indA imP inP imS imB imO imR imA inA imH ihs = some (k', r', mS', mH', hs')) : CH l yL_setRule wsL_setRule rm_L_setRule D cy [.ref (aI 0), .int x1, .int x2, .ref bo] ([(bo, .inl (cy 1, 1, .inr (.inl o)))] ++ ((W_All cy aI aT adP adS adB adO adR adA aP aS aB aO aR aA aH ah imT imdP indP imdS imdB imdO imdR imdA indA imP inP imS imB imO imR imA inA imH ihs) ++ [])) 2 12 (QI D cy cd ([(bo, .inl (cy 1, 1, .inr (.inl o')))] ++ ((W_All cy aI aT adP adS adB adO adR adA aP aS aB aO aR aA aH ah imT imdP indP imdS imdB imdO imdR imdA indA imP inP mS' imB imO imR imA inA mH' hs') ++ []))) := by
  refine CH_of (cc := cL_setRule) (maxL := 5) (ret := (some .int)) (hh := [(0, 10, 13, 21), (0, 10, 17, 13)]) (by decide) rfl (Nat.le_of_ble_eq_true rfl) (fun p e s m args below meth c A ls hx hb hr hml hlocks hown hts hA htab hK hN hX hP hD hS hl => ?_)
  have hown : s.vm.findClass RL = some m.cls := hown
  have hl : lv_has ls 5 [(0, .ref (aI 0)), (1, .int x1), (2, .int x2), (3, .ref bo)] := hl
  have hC : CallFix p m c cL_setRule 5 s args wsL_setRule RL := ⟨hx, hb, hml, hown, hts⟩
  refine lv_aload_n hx hb dL_setRule_0 rfl (lv_at hl 3 rfl) ?_
  refine lv_iconst (v := 0) hx hb dL_setRule_1 (by decide) ?_
  refine lv_aload_n hx hb dL_setRule_2 rfl (lv_at hl 0 rfl) ?_
  refine lv_iload_n hx hb dL_setRule_3 rfl (lv_at hl 1 rfl) ?_
  refine lv_iload_n hx hb dL_setRule_4 rfl (lv_at hl 2 rfl) ?_
  refine kxi (X := [(bo, .inl (cy 1, 1, .inr (.inl o)))]) (Y := []) (ws1 := [(bo, .inl (cy 1, 1, .inr (.inl o)))] ++ ((W_All cy aI aT adP adS adB adO adR adA aP aS aB aO aR aA aH ah imT imdP indP imdS imdB imdO imdR imdA indA imP inP mS' imB imO imR imA inA mH' hs') ++ [])) (xV (X := [(bo, .inl (cy 1, 1, .inr (.inl o)))]) (Y := []) (As := [.int x1, .int x2]) (rest := [.int (0 : Int32), .ref bo]) hC (c_X8_setRule l hst D cy aI aT adP adS adB adO adR adA aP aS aB aO aR aA aH ah x1 x2 imT imdP indP imdS imdB imdO imdR imdA indA imP inP imS imB imO imR imA inA imH ihs k' r' mS' mH' hs' hE) (cwV 2 hts gL_setRule_X8_setRule rfl rfl rfl cd_X8_setRule ⟨Nat.le_of_ble_eq_true rfl, Nat.le_of_ble_eq_true rfl⟩) hK hN hP hD hS hA rfl 0 8 rfl rfl rfl hl.1 rfl (lv_room (Nat.le_of_ble_eq_true rfl)) dL_setRule_5 ⟨Nat.le_of_ble_eq_true rfl, Nat.le_of_ble_eq_true rfl⟩) hP hD hS hA rfl (fst_All cy aI aT adP adS adB adO adR adA aP aS aB aO aR aA aH ah imT imdP indP imdS imdB imdO imdR imdA indA imP inP imS imB imO imR imA inA imH ihs imT imdP indP imdS imdB imdO imdR imdA indA imP inP mS' imB imO imR imA inA mH' hs') rfl (fun hk0 H locs ce q9 hP hD hS hce hcv hcl => ?_) (fun hk0 H locs hP hD hS => ?_)
  · have ho1 : o = o' := by rw [if_neg hk0] at ho; exact ho
    rw [ho1] at hP hD
    rcases hk with ⟨a, b⟩ | ⟨a, b⟩ | ⟨a, b⟩
    · exact absurd a hk0
    · rw [a] at hcl
      refine kc (k := 1) (pre := []) (suf := [⟨0, 10, 17, 13⟩]) hown ⟨0, 10, 13, 21⟩ htab hX (by decide) (by decide) (fun z hz => absurd hz List.not_mem_nil) rfl (by decide) (hts _ (mC qg_L_21)) hce hcv hcl ?_
      refine W.eq (g2 := F0 m 13 ls [.ref q9]) rfl ?_
      refine lv_astore (lv' := [(4, .ref q9), (0, .ref (aI 0)), (1, .int x1), (2, .int x2), (3, .ref bo)]) hx hb dL_setRule_13 hl (by decide) rfl (fun ls hl => ?_)
      refine lv_iconst (v := 1) hx hb dL_setRule_15 (by decide) ?_
      exact ei hx hb hr hlocks hK hP hD hS b.symm rfl dL_setRule_16
    · rw [a] at hcl
      refine kc (k := 2) (pre := [⟨0, 10, 13, 21⟩]) (suf := []) hown ⟨0, 10, 17, 13⟩ htab hX (by decide) (by decide) (fun z hz => by
        rcases List.mem_singleton.mp hz with rfl
        · exact ⟨by decide, 1, by decide, by decide, by decide, hts _ (mC qg_L_21)⟩) rfl (by decide) (hts _ (mC qg_L_13)) hce hcv hcl ?_
      refine W.eq (g2 := F0 m 17 ls [.ref q9]) rfl ?_
      refine lv_astore (lv' := [(4, .ref q9), (0, .ref (aI 0)), (1, .int x1), (2, .int x2), (3, .ref bo)]) hx hb dL_setRule_17 hl (by decide) rfl (fun ls hl => ?_)
      refine lv_iconst (v := 2) hx hb dL_setRule_19 (by decide) ?_
      exact ei hx hb hr hlocks hK hP hD hS b.symm rfl dL_setRule_20
  · have ho1 : vp_updL o 0 (r'.toInt64) = o' := by rw [if_pos hk0] at ho; exact ho
    have hc0 : cd = 0 := by rcases hk with ⟨a, b⟩ | ⟨a, b⟩ | ⟨a, b⟩ <;> first | exact b | omega
    refine lv_i2l hx hb dL_setRule_8 rfl ?_
    refine s_la (ws1 := [(bo, .inl (cy 1, 1, .inr (.inl o')))] ++ ((W_All cy aI aT adP adS adB adO adR adA aP aS aB aO aR aA aH ah imT imdP indP imdS imdB imdO imdR imdA indA imP inP mS' imB imO imR imA inA mH' hs') ++ [])) hx hb hK hP hD hS 0 rfl (show ¬ ((0 : Int32) < 0 ∨ 1 ≤ (0 : Int32).toNatClampNeg) by decide) (by rw [← ho1]; rfl) dL_setRule_9 (fun H locs hP hD hS => ?_)
    refine lv_goto (tgt := 21) hx hb dL_setRule_10 (by decide) ?_
    refine lv_iconst (v := 0) hx hb dL_setRule_21 (by decide) ?_
    exact ei hx hb hr hlocks hK hP hD hS hc0.symm rfl dL_setRule_22
abbrev rm_L_setStrength : Room := { frames := 9, cells := 2, slots := 12, locals := 144 }
set_option maxHeartbeats 40000000 in
set_option maxRecDepth 100000 in
theorem c_L_setStrength (l : Launch) (hst : l.stackTraces = false) (D : va_G) (cy : Nat → Nat) (aI aT adP adS adB adO adR adA aP aS aB aO aR aA aH : Nat → Nat) (ah : Nat → Nat → Nat → Nat) (bo : Nat) (x1 x2 : Int32) (imT : Mem) (imdP : Mem) (indP : MemL) (imdS : Mem) (imdB : Mem) (imdO : Mem) (imdR : Mem) (imdA : Mem) (indA : MemL) (imP : Mem) (inP : MemL) (imS : Mem) (imB : Mem) (imO : Mem) (imR : Mem) (imA : Mem) (inA : MemL) (imH : Mem) (ihs : (Nat → PSt)) (o o' : Nat → Int64) (k' : Nat) (r' : Int32) (mS' : Mem) (mH' : Mem) (hs' : (Nat → PSt)) (cd : Int32) (hk : k' = 0 ∧ cd = 0 ∨ k' = 1 ∧ cd = 1 ∨ k' = 2 ∧ cd = 2) (ho : (if k' = 0 then vp_updL o 0 r'.toInt64 else o) = o') (hE : f_X8_setStrength x1 x2 imT imdP indP imdS imdB imdO imdR imdA indA imP inP imS imB imO imR imA inA imH ihs = some (k', r', mS', mH', hs')) : CH l yL_setStrength wsL_setStrength rm_L_setStrength D cy [.ref (aI 0), .int x1, .int x2, .ref bo] ([(bo, .inl (cy 1, 1, .inr (.inl o)))] ++ ((W_All cy aI aT adP adS adB adO adR adA aP aS aB aO aR aA aH ah imT imdP indP imdS imdB imdO imdR imdA indA imP inP imS imB imO imR imA inA imH ihs) ++ [])) 2 12 (QI D cy cd ([(bo, .inl (cy 1, 1, .inr (.inl o')))] ++ ((W_All cy aI aT adP adS adB adO adR adA aP aS aB aO aR aA aH ah imT imdP indP imdS imdB imdO imdR imdA indA imP inP mS' imB imO imR imA inA mH' hs') ++ []))) := by
  refine CH_of (cc := cL_setStrength) (maxL := 5) (ret := (some .int)) (hh := [(0, 10, 13, 21), (0, 10, 17, 13)]) (by decide) rfl (Nat.le_of_ble_eq_true rfl) (fun p e s m args below meth c A ls hx hb hr hml hlocks hown hts hA htab hK hN hX hP hD hS hl => ?_)
  have hown : s.vm.findClass RL = some m.cls := hown
  have hl : lv_has ls 5 [(0, .ref (aI 0)), (1, .int x1), (2, .int x2), (3, .ref bo)] := hl
  have hC : CallFix p m c cL_setStrength 5 s args wsL_setStrength RL := ⟨hx, hb, hml, hown, hts⟩
  refine lv_aload_n hx hb dL_setStrength_0 rfl (lv_at hl 3 rfl) ?_
  refine lv_iconst (v := 0) hx hb dL_setStrength_1 (by decide) ?_
  refine lv_aload_n hx hb dL_setStrength_2 rfl (lv_at hl 0 rfl) ?_
  refine lv_iload_n hx hb dL_setStrength_3 rfl (lv_at hl 1 rfl) ?_
  refine lv_iload_n hx hb dL_setStrength_4 rfl (lv_at hl 2 rfl) ?_
  refine kxi (X := [(bo, .inl (cy 1, 1, .inr (.inl o)))]) (Y := []) (ws1 := [(bo, .inl (cy 1, 1, .inr (.inl o)))] ++ ((W_All cy aI aT adP adS adB adO adR adA aP aS aB aO aR aA aH ah imT imdP indP imdS imdB imdO imdR imdA indA imP inP mS' imB imO imR imA inA mH' hs') ++ [])) (xV (X := [(bo, .inl (cy 1, 1, .inr (.inl o)))]) (Y := []) (As := [.int x1, .int x2]) (rest := [.int (0 : Int32), .ref bo]) hC (c_X8_setStrength l hst D cy aI aT adP adS adB adO adR adA aP aS aB aO aR aA aH ah x1 x2 imT imdP indP imdS imdB imdO imdR imdA indA imP inP imS imB imO imR imA inA imH ihs k' r' mS' mH' hs' hE) (cwV 2 hts gL_setStrength_X8_setStrength rfl rfl rfl cd_X8_setStrength ⟨Nat.le_of_ble_eq_true rfl, Nat.le_of_ble_eq_true rfl⟩) hK hN hP hD hS hA rfl 0 8 rfl rfl rfl hl.1 rfl (lv_room (Nat.le_of_ble_eq_true rfl)) dL_setStrength_5 ⟨Nat.le_of_ble_eq_true rfl, Nat.le_of_ble_eq_true rfl⟩) hP hD hS hA rfl (fst_All cy aI aT adP adS adB adO adR adA aP aS aB aO aR aA aH ah imT imdP indP imdS imdB imdO imdR imdA indA imP inP imS imB imO imR imA inA imH ihs imT imdP indP imdS imdB imdO imdR imdA indA imP inP mS' imB imO imR imA inA mH' hs') rfl (fun hk0 H locs ce q9 hP hD hS hce hcv hcl => ?_) (fun hk0 H locs hP hD hS => ?_)
  · have ho1 : o = o' := by rw [if_neg hk0] at ho; exact ho
    rw [ho1] at hP hD
    rcases hk with ⟨a, b⟩ | ⟨a, b⟩ | ⟨a, b⟩
    · exact absurd a hk0
    · rw [a] at hcl
      refine kc (k := 1) (pre := []) (suf := [⟨0, 10, 17, 13⟩]) hown ⟨0, 10, 13, 21⟩ htab hX (by decide) (by decide) (fun z hz => absurd hz List.not_mem_nil) rfl (by decide) (hts _ (mC qg_L_21)) hce hcv hcl ?_
      refine W.eq (g2 := F0 m 13 ls [.ref q9]) rfl ?_
      refine lv_astore (lv' := [(4, .ref q9), (0, .ref (aI 0)), (1, .int x1), (2, .int x2), (3, .ref bo)]) hx hb dL_setStrength_13 hl (by decide) rfl (fun ls hl => ?_)
      refine lv_iconst (v := 1) hx hb dL_setStrength_15 (by decide) ?_
      exact ei hx hb hr hlocks hK hP hD hS b.symm rfl dL_setStrength_16
    · rw [a] at hcl
      refine kc (k := 2) (pre := [⟨0, 10, 13, 21⟩]) (suf := []) hown ⟨0, 10, 17, 13⟩ htab hX (by decide) (by decide) (fun z hz => by
        rcases List.mem_singleton.mp hz with rfl
        · exact ⟨by decide, 1, by decide, by decide, by decide, hts _ (mC qg_L_21)⟩) rfl (by decide) (hts _ (mC qg_L_13)) hce hcv hcl ?_
      refine W.eq (g2 := F0 m 17 ls [.ref q9]) rfl ?_
      refine lv_astore (lv' := [(4, .ref q9), (0, .ref (aI 0)), (1, .int x1), (2, .int x2), (3, .ref bo)]) hx hb dL_setStrength_17 hl (by decide) rfl (fun ls hl => ?_)
      refine lv_iconst (v := 2) hx hb dL_setStrength_19 (by decide) ?_
      exact ei hx hb hr hlocks hK hP hD hS b.symm rfl dL_setStrength_20
  · have ho1 : vp_updL o 0 (r'.toInt64) = o' := by rw [if_pos hk0] at ho; exact ho
    have hc0 : cd = 0 := by rcases hk with ⟨a, b⟩ | ⟨a, b⟩ | ⟨a, b⟩ <;> first | exact b | omega
    refine lv_i2l hx hb dL_setStrength_8 rfl ?_
    refine s_la (ws1 := [(bo, .inl (cy 1, 1, .inr (.inl o')))] ++ ((W_All cy aI aT adP adS adB adO adR adA aP aS aB aO aR aA aH ah imT imdP indP imdS imdB imdO imdR imdA indA imP inP mS' imB imO imR imA inA mH' hs') ++ [])) hx hb hK hP hD hS 0 rfl (show ¬ ((0 : Int32) < 0 ∨ 1 ≤ (0 : Int32).toNatClampNeg) by decide) (by rw [← ho1]; rfl) dL_setStrength_9 (fun H locs hP hD hS => ?_)
    refine lv_goto (tgt := 21) hx hb dL_setStrength_10 (by decide) ?_
    refine lv_iconst (v := 0) hx hb dL_setStrength_21 (by decide) ?_
    exact ei hx hb hr hlocks hK hP hD hS hc0.symm rfl dL_setStrength_22
abbrev rm_L_setTemperature : Room := { frames := 9, cells := 2, slots := 12, locals := 144 }
set_option maxHeartbeats 40000000 in
set_option maxRecDepth 100000 in
theorem c_L_setTemperature (l : Launch) (hst : l.stackTraces = false) (D : va_G) (cy : Nat → Nat) (aI aT adP adS adB adO adR adA aP aS aB aO aR aA aH : Nat → Nat) (ah : Nat → Nat → Nat → Nat) (bo : Nat) (x1 x2 : Int32) (imT : Mem) (imdP : Mem) (indP : MemL) (imdS : Mem) (imdB : Mem) (imdO : Mem) (imdR : Mem) (imdA : Mem) (indA : MemL) (imP : Mem) (inP : MemL) (imS : Mem) (imB : Mem) (imO : Mem) (imR : Mem) (imA : Mem) (inA : MemL) (imH : Mem) (ihs : (Nat → PSt)) (o o' : Nat → Int64) (k' : Nat) (r' : Int32) (mP' : Mem) (mH' : Mem) (hs' : (Nat → PSt)) (cd : Int32) (hk : k' = 0 ∧ cd = 0 ∨ k' = 1 ∧ cd = 1 ∨ k' = 2 ∧ cd = 2) (ho : (if k' = 0 then vp_updL o 0 r'.toInt64 else o) = o') (hE : f_X8_setTemperature x1 x2 imT imdP indP imdS imdB imdO imdR imdA indA imP inP imS imB imO imR imA inA imH ihs = some (k', r', mP', mH', hs')) : CH l yL_setTemperature wsL_setTemperature rm_L_setTemperature D cy [.ref (aI 0), .int x1, .int x2, .ref bo] ([(bo, .inl (cy 1, 1, .inr (.inl o)))] ++ ((W_All cy aI aT adP adS adB adO adR adA aP aS aB aO aR aA aH ah imT imdP indP imdS imdB imdO imdR imdA indA imP inP imS imB imO imR imA inA imH ihs) ++ [])) 2 12 (QI D cy cd ([(bo, .inl (cy 1, 1, .inr (.inl o')))] ++ ((W_All cy aI aT adP adS adB adO adR adA aP aS aB aO aR aA aH ah imT imdP indP imdS imdB imdO imdR imdA indA mP' inP imS imB imO imR imA inA mH' hs') ++ []))) := by
  refine CH_of (cc := cL_setTemperature) (maxL := 5) (ret := (some .int)) (hh := [(0, 10, 13, 21), (0, 10, 17, 13)]) (by decide) rfl (Nat.le_of_ble_eq_true rfl) (fun p e s m args below meth c A ls hx hb hr hml hlocks hown hts hA htab hK hN hX hP hD hS hl => ?_)
  have hown : s.vm.findClass RL = some m.cls := hown
  have hl : lv_has ls 5 [(0, .ref (aI 0)), (1, .int x1), (2, .int x2), (3, .ref bo)] := hl
  have hC : CallFix p m c cL_setTemperature 5 s args wsL_setTemperature RL := ⟨hx, hb, hml, hown, hts⟩
  refine lv_aload_n hx hb dL_setTemperature_0 rfl (lv_at hl 3 rfl) ?_
  refine lv_iconst (v := 0) hx hb dL_setTemperature_1 (by decide) ?_
  refine lv_aload_n hx hb dL_setTemperature_2 rfl (lv_at hl 0 rfl) ?_
  refine lv_iload_n hx hb dL_setTemperature_3 rfl (lv_at hl 1 rfl) ?_
  refine lv_iload_n hx hb dL_setTemperature_4 rfl (lv_at hl 2 rfl) ?_
  refine kxi (X := [(bo, .inl (cy 1, 1, .inr (.inl o)))]) (Y := []) (ws1 := [(bo, .inl (cy 1, 1, .inr (.inl o)))] ++ ((W_All cy aI aT adP adS adB adO adR adA aP aS aB aO aR aA aH ah imT imdP indP imdS imdB imdO imdR imdA indA mP' inP imS imB imO imR imA inA mH' hs') ++ [])) (xV (X := [(bo, .inl (cy 1, 1, .inr (.inl o)))]) (Y := []) (As := [.int x1, .int x2]) (rest := [.int (0 : Int32), .ref bo]) hC (c_X8_setTemperature l hst D cy aI aT adP adS adB adO adR adA aP aS aB aO aR aA aH ah x1 x2 imT imdP indP imdS imdB imdO imdR imdA indA imP inP imS imB imO imR imA inA imH ihs k' r' mP' mH' hs' hE) (cwV 2 hts gL_setTemperature_X8_setTemperature rfl rfl rfl cd_X8_setTemperature ⟨Nat.le_of_ble_eq_true rfl, Nat.le_of_ble_eq_true rfl⟩) hK hN hP hD hS hA rfl 0 8 rfl rfl rfl hl.1 rfl (lv_room (Nat.le_of_ble_eq_true rfl)) dL_setTemperature_5 ⟨Nat.le_of_ble_eq_true rfl, Nat.le_of_ble_eq_true rfl⟩) hP hD hS hA rfl (fst_All cy aI aT adP adS adB adO adR adA aP aS aB aO aR aA aH ah imT imdP indP imdS imdB imdO imdR imdA indA imP inP imS imB imO imR imA inA imH ihs imT imdP indP imdS imdB imdO imdR imdA indA mP' inP imS imB imO imR imA inA mH' hs') rfl (fun hk0 H locs ce q9 hP hD hS hce hcv hcl => ?_) (fun hk0 H locs hP hD hS => ?_)
  · have ho1 : o = o' := by rw [if_neg hk0] at ho; exact ho
    rw [ho1] at hP hD
    rcases hk with ⟨a, b⟩ | ⟨a, b⟩ | ⟨a, b⟩
    · exact absurd a hk0
    · rw [a] at hcl
      refine kc (k := 1) (pre := []) (suf := [⟨0, 10, 17, 13⟩]) hown ⟨0, 10, 13, 21⟩ htab hX (by decide) (by decide) (fun z hz => absurd hz List.not_mem_nil) rfl (by decide) (hts _ (mC qg_L_21)) hce hcv hcl ?_
      refine W.eq (g2 := F0 m 13 ls [.ref q9]) rfl ?_
      refine lv_astore (lv' := [(4, .ref q9), (0, .ref (aI 0)), (1, .int x1), (2, .int x2), (3, .ref bo)]) hx hb dL_setTemperature_13 hl (by decide) rfl (fun ls hl => ?_)
      refine lv_iconst (v := 1) hx hb dL_setTemperature_15 (by decide) ?_
      exact ei hx hb hr hlocks hK hP hD hS b.symm rfl dL_setTemperature_16
    · rw [a] at hcl
      refine kc (k := 2) (pre := [⟨0, 10, 13, 21⟩]) (suf := []) hown ⟨0, 10, 17, 13⟩ htab hX (by decide) (by decide) (fun z hz => by
        rcases List.mem_singleton.mp hz with rfl
        · exact ⟨by decide, 1, by decide, by decide, by decide, hts _ (mC qg_L_21)⟩) rfl (by decide) (hts _ (mC qg_L_13)) hce hcv hcl ?_
      refine W.eq (g2 := F0 m 17 ls [.ref q9]) rfl ?_
      refine lv_astore (lv' := [(4, .ref q9), (0, .ref (aI 0)), (1, .int x1), (2, .int x2), (3, .ref bo)]) hx hb dL_setTemperature_17 hl (by decide) rfl (fun ls hl => ?_)
      refine lv_iconst (v := 2) hx hb dL_setTemperature_19 (by decide) ?_
      exact ei hx hb hr hlocks hK hP hD hS b.symm rfl dL_setTemperature_20
  · have ho1 : vp_updL o 0 (r'.toInt64) = o' := by rw [if_pos hk0] at ho; exact ho
    have hc0 : cd = 0 := by rcases hk with ⟨a, b⟩ | ⟨a, b⟩ | ⟨a, b⟩ <;> first | exact b | omega
    refine lv_i2l hx hb dL_setTemperature_8 rfl ?_
    refine s_la (ws1 := [(bo, .inl (cy 1, 1, .inr (.inl o')))] ++ ((W_All cy aI aT adP adS adB adO adR adA aP aS aB aO aR aA aH ah imT imdP indP imdS imdB imdO imdR imdA indA mP' inP imS imB imO imR imA inA mH' hs') ++ [])) hx hb hK hP hD hS 0 rfl (show ¬ ((0 : Int32) < 0 ∨ 1 ≤ (0 : Int32).toNatClampNeg) by decide) (by rw [← ho1]; rfl) dL_setTemperature_9 (fun H locs hP hD hS => ?_)
    refine lv_goto (tgt := 21) hx hb dL_setTemperature_10 (by decide) ?_
    refine lv_iconst (v := 0) hx hb dL_setTemperature_21 (by decide) ?_
    exact ei hx hb hr hlocks hK hP hD hS hc0.symm rfl dL_setTemperature_22
abbrev rm_L_set : Room := { frames := 9, cells := 2, slots := 12, locals := 144 }
set_option maxHeartbeats 40000000 in
set_option maxRecDepth 100000 in
theorem c_L_set (l : Launch) (hst : l.stackTraces = false) (D : va_G) (cy : Nat → Nat) (aI aT adP adS adB adO adR adA aP aS aB aO aR aA aH : Nat → Nat) (ah : Nat → Nat → Nat → Nat) (bo : Nat) (x1 x2 : Int32) (imT : Mem) (imdP : Mem) (indP : MemL) (imdS : Mem) (imdB : Mem) (imdO : Mem) (imdR : Mem) (imdA : Mem) (indA : MemL) (imP : Mem) (inP : MemL) (imS : Mem) (imB : Mem) (imO : Mem) (imR : Mem) (imA : Mem) (inA : MemL) (imH : Mem) (ihs : (Nat → PSt)) (o o' : Nat → Int64) (k' : Nat) (r' : Int32) (mP' : Mem) (mH' : Mem) (hs' : (Nat → PSt)) (cd : Int32) (hk : k' = 0 ∧ cd = 0 ∨ k' = 1 ∧ cd = 1 ∨ k' = 2 ∧ cd = 2) (ho : (if k' = 0 then vp_updL o 0 r'.toInt64 else o) = o') (hE : f_X8_set x1 x2 imT imdP indP imdS imdB imdO imdR imdA indA imP inP imS imB imO imR imA inA imH ihs = some (k', r', mP', mH', hs')) : CH l yL_set wsL_set rm_L_set D cy [.ref (aI 0), .int x1, .int x2, .ref bo] ([(bo, .inl (cy 1, 1, .inr (.inl o)))] ++ ((W_All cy aI aT adP adS adB adO adR adA aP aS aB aO aR aA aH ah imT imdP indP imdS imdB imdO imdR imdA indA imP inP imS imB imO imR imA inA imH ihs) ++ [])) 2 12 (QI D cy cd ([(bo, .inl (cy 1, 1, .inr (.inl o')))] ++ ((W_All cy aI aT adP adS adB adO adR adA aP aS aB aO aR aA aH ah imT imdP indP imdS imdB imdO imdR imdA indA mP' inP imS imB imO imR imA inA mH' hs') ++ []))) := by
  refine CH_of (cc := cL_set) (maxL := 5) (ret := (some .int)) (hh := [(0, 10, 13, 21), (0, 10, 17, 13)]) (by decide) rfl (Nat.le_of_ble_eq_true rfl) (fun p e s m args below meth c A ls hx hb hr hml hlocks hown hts hA htab hK hN hX hP hD hS hl => ?_)
  have hown : s.vm.findClass RL = some m.cls := hown
  have hl : lv_has ls 5 [(0, .ref (aI 0)), (1, .int x1), (2, .int x2), (3, .ref bo)] := hl
  have hC : CallFix p m c cL_set 5 s args wsL_set RL := ⟨hx, hb, hml, hown, hts⟩
  refine lv_aload_n hx hb dL_set_0 rfl (lv_at hl 3 rfl) ?_
  refine lv_iconst (v := 0) hx hb dL_set_1 (by decide) ?_
  refine lv_aload_n hx hb dL_set_2 rfl (lv_at hl 0 rfl) ?_
  refine lv_iload_n hx hb dL_set_3 rfl (lv_at hl 1 rfl) ?_
  refine lv_iload_n hx hb dL_set_4 rfl (lv_at hl 2 rfl) ?_
  refine kxi (X := [(bo, .inl (cy 1, 1, .inr (.inl o)))]) (Y := []) (ws1 := [(bo, .inl (cy 1, 1, .inr (.inl o)))] ++ ((W_All cy aI aT adP adS adB adO adR adA aP aS aB aO aR aA aH ah imT imdP indP imdS imdB imdO imdR imdA indA mP' inP imS imB imO imR imA inA mH' hs') ++ [])) (xV (X := [(bo, .inl (cy 1, 1, .inr (.inl o)))]) (Y := []) (As := [.int x1, .int x2]) (rest := [.int (0 : Int32), .ref bo]) hC (c_X8_set l hst D cy aI aT adP adS adB adO adR adA aP aS aB aO aR aA aH ah x1 x2 imT imdP indP imdS imdB imdO imdR imdA indA imP inP imS imB imO imR imA inA imH ihs k' r' mP' mH' hs' hE) (cwV 2 hts gL_set_X8_set rfl rfl rfl cd_X8_set ⟨Nat.le_of_ble_eq_true rfl, Nat.le_of_ble_eq_true rfl⟩) hK hN hP hD hS hA rfl 0 8 rfl rfl rfl hl.1 rfl (lv_room (Nat.le_of_ble_eq_true rfl)) dL_set_5 ⟨Nat.le_of_ble_eq_true rfl, Nat.le_of_ble_eq_true rfl⟩) hP hD hS hA rfl (fst_All cy aI aT adP adS adB adO adR adA aP aS aB aO aR aA aH ah imT imdP indP imdS imdB imdO imdR imdA indA imP inP imS imB imO imR imA inA imH ihs imT imdP indP imdS imdB imdO imdR imdA indA mP' inP imS imB imO imR imA inA mH' hs') rfl (fun hk0 H locs ce q9 hP hD hS hce hcv hcl => ?_) (fun hk0 H locs hP hD hS => ?_)
  · have ho1 : o = o' := by rw [if_neg hk0] at ho; exact ho
    rw [ho1] at hP hD
    rcases hk with ⟨a, b⟩ | ⟨a, b⟩ | ⟨a, b⟩
    · exact absurd a hk0
    · rw [a] at hcl
      refine kc (k := 1) (pre := []) (suf := [⟨0, 10, 17, 13⟩]) hown ⟨0, 10, 13, 21⟩ htab hX (by decide) (by decide) (fun z hz => absurd hz List.not_mem_nil) rfl (by decide) (hts _ (mC qg_L_21)) hce hcv hcl ?_
      refine W.eq (g2 := F0 m 13 ls [.ref q9]) rfl ?_
      refine lv_astore (lv' := [(4, .ref q9), (0, .ref (aI 0)), (1, .int x1), (2, .int x2), (3, .ref bo)]) hx hb dL_set_13 hl (by decide) rfl (fun ls hl => ?_)
      refine lv_iconst (v := 1) hx hb dL_set_15 (by decide) ?_
      exact ei hx hb hr hlocks hK hP hD hS b.symm rfl dL_set_16
    · rw [a] at hcl
      refine kc (k := 2) (pre := [⟨0, 10, 13, 21⟩]) (suf := []) hown ⟨0, 10, 17, 13⟩ htab hX (by decide) (by decide) (fun z hz => by
        rcases List.mem_singleton.mp hz with rfl
        · exact ⟨by decide, 1, by decide, by decide, by decide, hts _ (mC qg_L_21)⟩) rfl (by decide) (hts _ (mC qg_L_13)) hce hcv hcl ?_
      refine W.eq (g2 := F0 m 17 ls [.ref q9]) rfl ?_
      refine lv_astore (lv' := [(4, .ref q9), (0, .ref (aI 0)), (1, .int x1), (2, .int x2), (3, .ref bo)]) hx hb dL_set_17 hl (by decide) rfl (fun ls hl => ?_)
      refine lv_iconst (v := 2) hx hb dL_set_19 (by decide) ?_
      exact ei hx hb hr hlocks hK hP hD hS b.symm rfl dL_set_20
  · have ho1 : vp_updL o 0 (r'.toInt64) = o' := by rw [if_pos hk0] at ho; exact ho
    have hc0 : cd = 0 := by rcases hk with ⟨a, b⟩ | ⟨a, b⟩ | ⟨a, b⟩ <;> first | exact b | omega
    refine lv_i2l hx hb dL_set_8 rfl ?_
    refine s_la (ws1 := [(bo, .inl (cy 1, 1, .inr (.inl o')))] ++ ((W_All cy aI aT adP adS adB adO adR adA aP aS aB aO aR aA aH ah imT imdP indP imdS imdB imdO imdR imdA indA mP' inP imS imB imO imR imA inA mH' hs') ++ [])) hx hb hK hP hD hS 0 rfl (show ¬ ((0 : Int32) < 0 ∨ 1 ≤ (0 : Int32).toNatClampNeg) by decide) (by rw [← ho1]; rfl) dL_set_9 (fun H locs hP hD hS => ?_)
    refine lv_goto (tgt := 21) hx hb dL_set_10 (by decide) ?_
    refine lv_iconst (v := 0) hx hb dL_set_21 (by decide) ?_
    exact ei hx hb hr hlocks hK hP hD hS hc0.symm rfl dL_set_22
abbrev rm_L_move : Room := { frames := 8, cells := 1, slots := 6, locals := 125 }
set_option maxHeartbeats 40000000 in
set_option maxRecDepth 100000 in
theorem c_L_move (l : Launch) (hst : l.stackTraces = false) (D : va_G) (cy : Nat → Nat) (aI aT adP adS adB adO adR adA aP aS aB aO aR aA aH : Nat → Nat) (ah : Nat → Nat → Nat → Nat) (bo : Nat) (x1 x2 : Int32) (imT : Mem) (imdP : Mem) (indP : MemL) (imdS : Mem) (imdB : Mem) (imdO : Mem) (imdR : Mem) (imdA : Mem) (indA : MemL) (imP : Mem) (inP : MemL) (imS : Mem) (imB : Mem) (imO : Mem) (imR : Mem) (imA : Mem) (inA : MemL) (imH : Mem) (ihs : (Nat → PSt)) (o o' : Nat → Int64) (k' : Nat) (r' : Int32) (mS' : Mem) (mH' : Mem) (hs' : (Nat → PSt)) (cd : Int32) (hk : k' = 0 ∧ cd = 0 ∨ k' = 1 ∧ cd = 1 ∨ k' = 2 ∧ cd = 2 ∨ k' = 3 ∧ cd = 3) (ho : (if k' = 0 then vp_updL o 0 r'.toInt64 else o) = o') (hE : f_X8_move x1 x2 imT imdP indP imdS imdB imdO imdR imdA indA imP inP imS imB imO imR imA inA imH ihs = some (k', r', mS', mH', hs')) : CH l yL_move wsL_move rm_L_move D cy [.ref (aI 0), .int x1, .int x2, .ref bo] ([(bo, .inl (cy 1, 1, .inr (.inl o)))] ++ ((W_All cy aI aT adP adS adB adO adR adA aP aS aB aO aR aA aH ah imT imdP indP imdS imdB imdO imdR imdA indA imP inP imS imB imO imR imA inA imH ihs) ++ [])) 1 6 (QI D cy cd ([(bo, .inl (cy 1, 1, .inr (.inl o')))] ++ ((W_All cy aI aT adP adS adB adO adR adA aP aS aB aO aR aA aH ah imT imdP indP imdS imdB imdO imdR imdA indA imP inP mS' imB imO imR imA inA mH' hs') ++ []))) := by
  refine CH_of (cc := cL_move) (maxL := 5) (ret := (some .int)) (hh := [(0, 10, 13, 21), (0, 10, 17, 13), (0, 10, 21, 15)]) (by decide) rfl (Nat.le_of_ble_eq_true rfl) (fun p e s m args below meth c A ls hx hb hr hml hlocks hown hts hA htab hK hN hX hP hD hS hl => ?_)
  have hown : s.vm.findClass RL = some m.cls := hown
  have hl : lv_has ls 5 [(0, .ref (aI 0)), (1, .int x1), (2, .int x2), (3, .ref bo)] := hl
  have hC : CallFix p m c cL_move 5 s args wsL_move RL := ⟨hx, hb, hml, hown, hts⟩
  refine lv_aload_n hx hb dL_move_0 rfl (lv_at hl 3 rfl) ?_
  refine lv_iconst (v := 0) hx hb dL_move_1 (by decide) ?_
  refine lv_aload_n hx hb dL_move_2 rfl (lv_at hl 0 rfl) ?_
  refine lv_iload_n hx hb dL_move_3 rfl (lv_at hl 1 rfl) ?_
  refine lv_iload_n hx hb dL_move_4 rfl (lv_at hl 2 rfl) ?_
  refine kxi (X := [(bo, .inl (cy 1, 1, .inr (.inl o)))]) (Y := []) (ws1 := [(bo, .inl (cy 1, 1, .inr (.inl o)))] ++ ((W_All cy aI aT adP adS adB adO adR adA aP aS aB aO aR aA aH ah imT imdP indP imdS imdB imdO imdR imdA indA imP inP mS' imB imO imR imA inA mH' hs') ++ [])) (xV (X := [(bo, .inl (cy 1, 1, .inr (.inl o)))]) (Y := []) (As := [.int x1, .int x2]) (rest := [.int (0 : Int32), .ref bo]) hC (c_X8_move l hst D cy aI aT adP adS adB adO adR adA aP aS aB aO aR aA aH ah x1 x2 imT imdP indP imdS imdB imdO imdR imdA indA imP inP imS imB imO imR imA inA imH ihs k' r' mS' mH' hs' hE) (cwV 2 hts gL_move_X8_move rfl rfl rfl cd_X8_move ⟨Nat.le_of_ble_eq_true rfl, Nat.le_of_ble_eq_true rfl⟩) hK hN hP hD hS hA rfl 0 8 rfl rfl rfl hl.1 rfl (lv_room (Nat.le_of_ble_eq_true rfl)) dL_move_5 ⟨Nat.le_of_ble_eq_true rfl, Nat.le_of_ble_eq_true rfl⟩) hP hD hS hA rfl (fst_All cy aI aT adP adS adB adO adR adA aP aS aB aO aR aA aH ah imT imdP indP imdS imdB imdO imdR imdA indA imP inP imS imB imO imR imA inA imH ihs imT imdP indP imdS imdB imdO imdR imdA indA imP inP mS' imB imO imR imA inA mH' hs') rfl (fun hk0 H locs ce q9 hP hD hS hce hcv hcl => ?_) (fun hk0 H locs hP hD hS => ?_)
  · have ho1 : o = o' := by rw [if_neg hk0] at ho; exact ho
    rw [ho1] at hP hD
    rcases hk with ⟨a, b⟩ | ⟨a, b⟩ | ⟨a, b⟩ | ⟨a, b⟩
    · exact absurd a hk0
    · rw [a] at hcl
      refine kc (k := 1) (pre := []) (suf := [⟨0, 10, 17, 13⟩, ⟨0, 10, 21, 15⟩]) hown ⟨0, 10, 13, 21⟩ htab hX (by decide) (by decide) (fun z hz => absurd hz List.not_mem_nil) rfl (by decide) (hts _ (mC qg_L_21)) hce hcv hcl ?_
      refine W.eq (g2 := F0 m 13 ls [.ref q9]) rfl ?_
      refine lv_astore (lv' := [(4, .ref q9), (0, .ref (aI 0)), (1, .int x1), (2, .int x2), (3, .ref bo)]) hx hb dL_move_13 hl (by decide) rfl (fun ls hl => ?_)
      refine lv_iconst (v := 1) hx hb dL_move_15 (by decide) ?_
      exact ei hx hb hr hlocks hK hP hD hS b.symm rfl dL_move_16
    · rw [a] at hcl
      refine kc (k := 2) (pre := [⟨0, 10, 13, 21⟩]) (suf := [⟨0, 10, 21, 15⟩]) hown ⟨0, 10, 17, 13⟩ htab hX (by decide) (by decide) (fun z hz => by
        rcases List.mem_singleton.mp hz with rfl
        · exact ⟨by decide, 1, by decide, by decide, by decide, hts _ (mC qg_L_21)⟩) rfl (by decide) (hts _ (mC qg_L_13)) hce hcv hcl ?_
      refine W.eq (g2 := F0 m 17 ls [.ref q9]) rfl ?_
      refine lv_astore (lv' := [(4, .ref q9), (0, .ref (aI 0)), (1, .int x1), (2, .int x2), (3, .ref bo)]) hx hb dL_move_17 hl (by decide) rfl (fun ls hl => ?_)
      refine lv_iconst (v := 2) hx hb dL_move_19 (by decide) ?_
      exact ei hx hb hr hlocks hK hP hD hS b.symm rfl dL_move_20
    · rw [a] at hcl
      refine kc (k := 3) (pre := [⟨0, 10, 13, 21⟩, ⟨0, 10, 17, 13⟩]) (suf := []) hown ⟨0, 10, 21, 15⟩ htab hX (by decide) (by decide) (fun z hz => by
        rcases List.mem_cons.mp hz with rfl | hz
        · exact ⟨by decide, 1, by decide, by decide, by decide, hts _ (mC qg_L_21)⟩
        · rcases List.mem_singleton.mp hz with rfl
          exact ⟨by decide, 2, by decide, by decide, by decide, hts _ (mC qg_L_13)⟩) rfl (by decide) (hts _ (mC qg_L_15)) hce hcv hcl ?_
      refine W.eq (g2 := F0 m 21 ls [.ref q9]) rfl ?_
      refine lv_astore (lv' := [(4, .ref q9), (0, .ref (aI 0)), (1, .int x1), (2, .int x2), (3, .ref bo)]) hx hb dL_move_21 hl (by decide) rfl (fun ls hl => ?_)
      refine lv_iconst (v := 3) hx hb dL_move_23 (by decide) ?_
      exact ei hx hb hr hlocks hK hP hD hS b.symm rfl dL_move_24
  · have ho1 : vp_updL o 0 (r'.toInt64) = o' := by rw [if_pos hk0] at ho; exact ho
    have hc0 : cd = 0 := by rcases hk with ⟨a, b⟩ | ⟨a, b⟩ | ⟨a, b⟩ | ⟨a, b⟩ <;> first | exact b | omega
    refine lv_i2l hx hb dL_move_8 rfl ?_
    refine s_la (ws1 := [(bo, .inl (cy 1, 1, .inr (.inl o')))] ++ ((W_All cy aI aT adP adS adB adO adR adA aP aS aB aO aR aA aH ah imT imdP indP imdS imdB imdO imdR imdA indA imP inP mS' imB imO imR imA inA mH' hs') ++ [])) hx hb hK hP hD hS 0 rfl (show ¬ ((0 : Int32) < 0 ∨ 1 ≤ (0 : Int32).toNatClampNeg) by decide) (by rw [← ho1]; rfl) dL_move_9 (fun H locs hP hD hS => ?_)
    refine lv_goto (tgt := 25) hx hb dL_move_10 (by decide) ?_
    refine lv_iconst (v := 0) hx hb dL_move_25 (by decide) ?_
    exact ei hx hb hr hlocks hK hP hD hS hc0.symm rfl dL_move_26
abbrev rm_L_pass : Room := { frames := 8, cells := 1, slots := 6, locals := 166 }
set_option maxHeartbeats 40000000 in
set_option maxRecDepth 100000 in
theorem c_L_pass (l : Launch) (hst : l.stackTraces = false) (D : va_G) (cy : Nat → Nat) (aI aT adP adS adB adO adR adA aP aS aB aO aR aA aH : Nat → Nat) (ah : Nat → Nat → Nat → Nat) (bo : Nat) (x1 : Int32) (imT : Mem) (imdP : Mem) (indP : MemL) (imdS : Mem) (imdB : Mem) (imdO : Mem) (imdR : Mem) (imdA : Mem) (indA : MemL) (imP : Mem) (inP : MemL) (imS : Mem) (imB : Mem) (imO : Mem) (imR : Mem) (imA : Mem) (inA : MemL) (imH : Mem) (ihs : (Nat → PSt)) (o o' : Nat → Int64) (k' : Nat) (r' : Int32) (mP' : Mem) (nP' : MemL) (mS' : Mem) (mB' : Mem) (mO' : Mem) (mR' : Mem) (mA' : Mem) (nA' : MemL) (mH' : Mem) (hs' : (Nat → PSt)) (cd : Int32) (hk : k' = 0 ∧ cd = 0 ∨ k' = 2 ∧ cd = 1 ∨ k' = 3 ∧ cd = 2) (ho : (if k' = 0 then vp_updL o 0 r'.toInt64 else o) = o') (hE : f_X8_pass x1 imT imdP indP imdS imdB imdO imdR imdA indA imP inP imS imB imO imR imA inA imH ihs = some (k', r', mP', nP', mS', mB', mO', mR', mA', nA', mH', hs')) : CH l yL_pass wsL_pass rm_L_pass D cy [.ref (aI 0), .int x1, .ref bo] ([(bo, .inl (cy 1, 1, .inr (.inl o)))] ++ ((W_All cy aI aT adP adS adB adO adR adA aP aS aB aO aR aA aH ah imT imdP indP imdS imdB imdO imdR imdA indA imP inP imS imB imO imR imA inA imH ihs) ++ [])) 1 6 (QI D cy cd ([(bo, .inl (cy 1, 1, .inr (.inl o')))] ++ ((W_All cy aI aT adP adS adB adO adR adA aP aS aB aO aR aA aH ah imT imdP indP imdS imdB imdO imdR imdA indA mP' nP' mS' mB' mO' mR' mA' nA' mH' hs') ++ []))) := by
  refine CH_of (cc := cL_pass) (maxL := 4) (ret := (some .int)) (hh := [(0, 9, 12, 13), (0, 9, 15, 15)]) (by decide) rfl (Nat.le_of_ble_eq_true rfl) (fun p e s m args below meth c A ls hx hb hr hml hlocks hown hts hA htab hK hN hX hP hD hS hl => ?_)
  have hown : s.vm.findClass RL = some m.cls := hown
  have hl : lv_has ls 4 [(0, .ref (aI 0)), (1, .int x1), (2, .ref bo)] := hl
  have hC : CallFix p m c cL_pass 4 s args wsL_pass RL := ⟨hx, hb, hml, hown, hts⟩
  refine lv_aload_n hx hb dL_pass_0 rfl (lv_at hl 2 rfl) ?_
  refine lv_iconst (v := 0) hx hb dL_pass_1 (by decide) ?_
  refine lv_aload_n hx hb dL_pass_2 rfl (lv_at hl 0 rfl) ?_
  refine lv_iload_n hx hb dL_pass_3 rfl (lv_at hl 1 rfl) ?_
  refine kxi (X := [(bo, .inl (cy 1, 1, .inr (.inl o)))]) (Y := []) (ws1 := [(bo, .inl (cy 1, 1, .inr (.inl o)))] ++ ((W_All cy aI aT adP adS adB adO adR adA aP aS aB aO aR aA aH ah imT imdP indP imdS imdB imdO imdR imdA indA mP' nP' mS' mB' mO' mR' mA' nA' mH' hs') ++ [])) (xV (X := [(bo, .inl (cy 1, 1, .inr (.inl o)))]) (Y := []) (As := [.int x1]) (rest := [.int (0 : Int32), .ref bo]) hC (c_X8_pass l hst D cy aI aT adP adS adB adO adR adA aP aS aB aO aR aA aH ah x1 imT imdP indP imdS imdB imdO imdR imdA indA imP inP imS imB imO imR imA inA imH ihs k' r' mP' nP' mS' mB' mO' mR' mA' nA' mH' hs' hE) (cwV 1 hts gL_pass_X8_pass rfl rfl rfl cd_X8_pass ⟨Nat.le_of_ble_eq_true rfl, Nat.le_of_ble_eq_true rfl⟩) hK hN hP hD hS hA rfl 0 8 rfl rfl rfl hl.1 rfl (lv_room (Nat.le_of_ble_eq_true rfl)) dL_pass_4 ⟨Nat.le_of_ble_eq_true rfl, Nat.le_of_ble_eq_true rfl⟩) hP hD hS hA rfl (fst_All cy aI aT adP adS adB adO adR adA aP aS aB aO aR aA aH ah imT imdP indP imdS imdB imdO imdR imdA indA imP inP imS imB imO imR imA inA imH ihs imT imdP indP imdS imdB imdO imdR imdA indA mP' nP' mS' mB' mO' mR' mA' nA' mH' hs') rfl (fun hk0 H locs ce q9 hP hD hS hce hcv hcl => ?_) (fun hk0 H locs hP hD hS => ?_)
  · have ho1 : o = o' := by rw [if_neg hk0] at ho; exact ho
    rw [ho1] at hP hD
    rcases hk with ⟨a, b⟩ | ⟨a, b⟩ | ⟨a, b⟩
    · exact absurd a hk0
    · rw [a] at hcl
      refine kc (k := 2) (pre := []) (suf := [⟨0, 9, 15, 15⟩]) hown ⟨0, 9, 12, 13⟩ htab hX (by decide) (by decide) (fun z hz => absurd hz List.not_mem_nil) rfl (by decide) (hts _ (mC qg_L_13)) hce hcv hcl ?_
      refine W.eq (g2 := F0 m 12 ls [.ref q9]) rfl ?_
      refine lv_astore_n (lv' := [(3, .ref q9), (0, .ref (aI 0)), (1, .int x1), (2, .ref bo)]) hx hb dL_pass_12 rfl hl (by decide) rfl (fun ls hl => ?_)
      refine lv_iconst (v := 1) hx hb dL_pass_13 (by decide) ?_
      exact ei hx hb hr hlocks hK hP hD hS b.symm rfl dL_pass_14
    · rw [a] at hcl
      refine kc (k := 3) (pre := [⟨0, 9, 12, 13⟩]) (suf := []) hown ⟨0, 9, 15, 15⟩ htab hX (by decide) (by decide) (fun z hz => by
        rcases List.mem_singleton.mp hz with rfl
        · exact ⟨by decide, 2, by decide, by decide, by decide, hts _ (mC qg_L_13)⟩) rfl (by decide) (hts _ (mC qg_L_15)) hce hcv hcl ?_
      refine W.eq (g2 := F0 m 15 ls [.ref q9]) rfl ?_
      refine lv_astore_n (lv' := [(3, .ref q9), (0, .ref (aI 0)), (1, .int x1), (2, .ref bo)]) hx hb dL_pass_15 rfl hl (by decide) rfl (fun ls hl => ?_)
      refine lv_iconst (v := 2) hx hb dL_pass_16 (by decide) ?_
      exact ei hx hb hr hlocks hK hP hD hS b.symm rfl dL_pass_17
  · have ho1 : vp_updL o 0 (r'.toInt64) = o' := by rw [if_pos hk0] at ho; exact ho
    have hc0 : cd = 0 := by rcases hk with ⟨a, b⟩ | ⟨a, b⟩ | ⟨a, b⟩ <;> first | exact b | omega
    refine lv_i2l hx hb dL_pass_7 rfl ?_
    refine s_la (ws1 := [(bo, .inl (cy 1, 1, .inr (.inl o')))] ++ ((W_All cy aI aT adP adS adB adO adR adA aP aS aB aO aR aA aH ah imT imdP indP imdS imdB imdO imdR imdA indA mP' nP' mS' mB' mO' mR' mA' nA' mH' hs') ++ [])) hx hb hK hP hD hS 0 rfl (show ¬ ((0 : Int32) < 0 ∨ 1 ≤ (0 : Int32).toNatClampNeg) by decide) (by rw [← ho1]; rfl) dL_pass_8 (fun H locs hP hD hS => ?_)
    refine lv_goto (tgt := 18) hx hb dL_pass_9 (by decide) ?_
    refine lv_iconst (v := 0) hx hb dL_pass_18 (by decide) ?_
    exact ei hx hb hr hlocks hK hP hD hS hc0.symm rfl dL_pass_19
abbrev rm_L_addBoat : Room := { frames := 9, cells := 2, slots := 12, locals := 143 }
set_option maxHeartbeats 40000000 in
set_option maxRecDepth 100000 in
theorem c_L_addBoat (l : Launch) (hst : l.stackTraces = false) (D : va_G) (cy : Nat → Nat) (aI aT adP adS adB adO adR adA aP aS aB aO aR aA aH : Nat → Nat) (ah : Nat → Nat → Nat → Nat) (bo : Nat) (x1 : Int32) (imT : Mem) (imdP : Mem) (indP : MemL) (imdS : Mem) (imdB : Mem) (imdO : Mem) (imdR : Mem) (imdA : Mem) (indA : MemL) (imP : Mem) (inP : MemL) (imS : Mem) (imB : Mem) (imO : Mem) (imR : Mem) (imA : Mem) (inA : MemL) (imH : Mem) (ihs : (Nat → PSt)) (o o' : Nat → Int64) (k' : Nat) (r' : Int32) (mB' : Mem) (mH' : Mem) (hs' : (Nat → PSt)) (cd : Int32) (hk : k' = 0 ∧ cd = 0 ∨ k' = 2 ∧ cd = 1 ∨ k' = 3 ∧ cd = 2) (ho : (if k' = 0 then vp_updL o 0 r'.toInt64 else o) = o') (hE : f_X8_addBoat x1 imT imdP indP imdS imdB imdO imdR imdA indA imP inP imS imB imO imR imA inA imH ihs = some (k', r', mB', mH', hs')) : CH l yL_addBoat wsL_addBoat rm_L_addBoat D cy [.ref (aI 0), .int x1, .ref bo] ([(bo, .inl (cy 1, 1, .inr (.inl o)))] ++ ((W_All cy aI aT adP adS adB adO adR adA aP aS aB aO aR aA aH ah imT imdP indP imdS imdB imdO imdR imdA indA imP inP imS imB imO imR imA inA imH ihs) ++ [])) 2 12 (QI D cy cd ([(bo, .inl (cy 1, 1, .inr (.inl o')))] ++ ((W_All cy aI aT adP adS adB adO adR adA aP aS aB aO aR aA aH ah imT imdP indP imdS imdB imdO imdR imdA indA imP inP imS mB' imO imR imA inA mH' hs') ++ []))) := by
  refine CH_of (cc := cL_addBoat) (maxL := 4) (ret := (some .int)) (hh := [(0, 9, 12, 13), (0, 9, 15, 15)]) (by decide) rfl (Nat.le_of_ble_eq_true rfl) (fun p e s m args below meth c A ls hx hb hr hml hlocks hown hts hA htab hK hN hX hP hD hS hl => ?_)
  have hown : s.vm.findClass RL = some m.cls := hown
  have hl : lv_has ls 4 [(0, .ref (aI 0)), (1, .int x1), (2, .ref bo)] := hl
  have hC : CallFix p m c cL_addBoat 4 s args wsL_addBoat RL := ⟨hx, hb, hml, hown, hts⟩
  refine lv_aload_n hx hb dL_addBoat_0 rfl (lv_at hl 2 rfl) ?_
  refine lv_iconst (v := 0) hx hb dL_addBoat_1 (by decide) ?_
  refine lv_aload_n hx hb dL_addBoat_2 rfl (lv_at hl 0 rfl) ?_
  refine lv_iload_n hx hb dL_addBoat_3 rfl (lv_at hl 1 rfl) ?_
  refine kxi (X := [(bo, .inl (cy 1, 1, .inr (.inl o)))]) (Y := []) (ws1 := [(bo, .inl (cy 1, 1, .inr (.inl o)))] ++ ((W_All cy aI aT adP adS adB adO adR adA aP aS aB aO aR aA aH ah imT imdP indP imdS imdB imdO imdR imdA indA imP inP imS mB' imO imR imA inA mH' hs') ++ [])) (xV (X := [(bo, .inl (cy 1, 1, .inr (.inl o)))]) (Y := []) (As := [.int x1]) (rest := [.int (0 : Int32), .ref bo]) hC (c_X8_addBoat l hst D cy aI aT adP adS adB adO adR adA aP aS aB aO aR aA aH ah x1 imT imdP indP imdS imdB imdO imdR imdA indA imP inP imS imB imO imR imA inA imH ihs k' r' mB' mH' hs' hE) (cwV 1 hts gL_addBoat_X8_addBoat rfl rfl rfl cd_X8_addBoat ⟨Nat.le_of_ble_eq_true rfl, Nat.le_of_ble_eq_true rfl⟩) hK hN hP hD hS hA rfl 0 8 rfl rfl rfl hl.1 rfl (lv_room (Nat.le_of_ble_eq_true rfl)) dL_addBoat_4 ⟨Nat.le_of_ble_eq_true rfl, Nat.le_of_ble_eq_true rfl⟩) hP hD hS hA rfl (fst_All cy aI aT adP adS adB adO adR adA aP aS aB aO aR aA aH ah imT imdP indP imdS imdB imdO imdR imdA indA imP inP imS imB imO imR imA inA imH ihs imT imdP indP imdS imdB imdO imdR imdA indA imP inP imS mB' imO imR imA inA mH' hs') rfl (fun hk0 H locs ce q9 hP hD hS hce hcv hcl => ?_) (fun hk0 H locs hP hD hS => ?_)
  · have ho1 : o = o' := by rw [if_neg hk0] at ho; exact ho
    rw [ho1] at hP hD
    rcases hk with ⟨a, b⟩ | ⟨a, b⟩ | ⟨a, b⟩
    · exact absurd a hk0
    · rw [a] at hcl
      refine kc (k := 2) (pre := []) (suf := [⟨0, 9, 15, 15⟩]) hown ⟨0, 9, 12, 13⟩ htab hX (by decide) (by decide) (fun z hz => absurd hz List.not_mem_nil) rfl (by decide) (hts _ (mC qg_L_13)) hce hcv hcl ?_
      refine W.eq (g2 := F0 m 12 ls [.ref q9]) rfl ?_
      refine lv_astore_n (lv' := [(3, .ref q9), (0, .ref (aI 0)), (1, .int x1), (2, .ref bo)]) hx hb dL_addBoat_12 rfl hl (by decide) rfl (fun ls hl => ?_)
      refine lv_iconst (v := 1) hx hb dL_addBoat_13 (by decide) ?_
      exact ei hx hb hr hlocks hK hP hD hS b.symm rfl dL_addBoat_14
    · rw [a] at hcl
      refine kc (k := 3) (pre := [⟨0, 9, 12, 13⟩]) (suf := []) hown ⟨0, 9, 15, 15⟩ htab hX (by decide) (by decide) (fun z hz => by
        rcases List.mem_singleton.mp hz with rfl
        · exact ⟨by decide, 2, by decide, by decide, by decide, hts _ (mC qg_L_13)⟩) rfl (by decide) (hts _ (mC qg_L_15)) hce hcv hcl ?_
      refine W.eq (g2 := F0 m 15 ls [.ref q9]) rfl ?_
      refine lv_astore_n (lv' := [(3, .ref q9), (0, .ref (aI 0)), (1, .int x1), (2, .ref bo)]) hx hb dL_addBoat_15 rfl hl (by decide) rfl (fun ls hl => ?_)
      refine lv_iconst (v := 2) hx hb dL_addBoat_16 (by decide) ?_
      exact ei hx hb hr hlocks hK hP hD hS b.symm rfl dL_addBoat_17
  · have ho1 : vp_updL o 0 (r'.toInt64) = o' := by rw [if_pos hk0] at ho; exact ho
    have hc0 : cd = 0 := by rcases hk with ⟨a, b⟩ | ⟨a, b⟩ | ⟨a, b⟩ <;> first | exact b | omega
    refine lv_i2l hx hb dL_addBoat_7 rfl ?_
    refine s_la (ws1 := [(bo, .inl (cy 1, 1, .inr (.inl o')))] ++ ((W_All cy aI aT adP adS adB adO adR adA aP aS aB aO aR aA aH ah imT imdP indP imdS imdB imdO imdR imdA indA imP inP imS mB' imO imR imA inA mH' hs') ++ [])) hx hb hK hP hD hS 0 rfl (show ¬ ((0 : Int32) < 0 ∨ 1 ≤ (0 : Int32).toNatClampNeg) by decide) (by rw [← ho1]; rfl) dL_addBoat_8 (fun H locs hP hD hS => ?_)
    refine lv_goto (tgt := 18) hx hb dL_addBoat_9 (by decide) ?_
    refine lv_iconst (v := 0) hx hb dL_addBoat_18 (by decide) ?_
    exact ei hx hb hr hlocks hK hP hD hS hc0.symm rfl dL_addBoat_19
abbrev rm_L_setCatch : Room := { frames := 8, cells := 1, slots := 6, locals := 125 }
set_option maxHeartbeats 40000000 in
set_option maxRecDepth 100000 in
theorem c_L_setCatch (l : Launch) (hst : l.stackTraces = false) (D : va_G) (cy : Nat → Nat) (aI aT adP adS adB adO adR adA aP aS aB aO aR aA aH : Nat → Nat) (ah : Nat → Nat → Nat → Nat) (bo : Nat) (x1 x2 : Int32) (imT : Mem) (imdP : Mem) (indP : MemL) (imdS : Mem) (imdB : Mem) (imdO : Mem) (imdR : Mem) (imdA : Mem) (indA : MemL) (imP : Mem) (inP : MemL) (imS : Mem) (imB : Mem) (imO : Mem) (imR : Mem) (imA : Mem) (inA : MemL) (imH : Mem) (ihs : (Nat → PSt)) (o o' : Nat → Int64) (k' : Nat) (r' : Int32) (mB' : Mem) (mH' : Mem) (hs' : (Nat → PSt)) (cd : Int32) (hk : k' = 0 ∧ cd = 0 ∨ k' = 1 ∧ cd = 1 ∨ k' = 2 ∧ cd = 2) (ho : (if k' = 0 then vp_updL o 0 r'.toInt64 else o) = o') (hE : f_X8_setCatch x1 x2 imT imdP indP imdS imdB imdO imdR imdA indA imP inP imS imB imO imR imA inA imH ihs = some (k', r', mB', mH', hs')) : CH l yL_setCatch wsL_setCatch rm_L_setCatch D cy [.ref (aI 0), .int x1, .int x2, .ref bo] ([(bo, .inl (cy 1, 1, .inr (.inl o)))] ++ ((W_All cy aI aT adP adS adB adO adR adA aP aS aB aO aR aA aH ah imT imdP indP imdS imdB imdO imdR imdA indA imP inP imS imB imO imR imA inA imH ihs) ++ [])) 1 6 (QI D cy cd ([(bo, .inl (cy 1, 1, .inr (.inl o')))] ++ ((W_All cy aI aT adP adS adB adO adR adA aP aS aB aO aR aA aH ah imT imdP indP imdS imdB imdO imdR imdA indA imP inP imS mB' imO imR imA inA mH' hs') ++ []))) := by
  refine CH_of (cc := cL_setCatch) (maxL := 5) (ret := (some .int)) (hh := [(0, 10, 13, 21), (0, 10, 17, 13)]) (by decide) rfl (Nat.le_of_ble_eq_true rfl) (fun p e s m args below meth c A ls hx hb hr hml hlocks hown hts hA htab hK hN hX hP hD hS hl => ?_)
  have hown : s.vm.findClass RL = some m.cls := hown
  have hl : lv_has ls 5 [(0, .ref (aI 0)), (1, .int x1), (2, .int x2), (3, .ref bo)] := hl
  have hC : CallFix p m c cL_setCatch 5 s args wsL_setCatch RL := ⟨hx, hb, hml, hown, hts⟩
  refine lv_aload_n hx hb dL_setCatch_0 rfl (lv_at hl 3 rfl) ?_
  refine lv_iconst (v := 0) hx hb dL_setCatch_1 (by decide) ?_
  refine lv_aload_n hx hb dL_setCatch_2 rfl (lv_at hl 0 rfl) ?_
  refine lv_iload_n hx hb dL_setCatch_3 rfl (lv_at hl 1 rfl) ?_
  refine lv_iload_n hx hb dL_setCatch_4 rfl (lv_at hl 2 rfl) ?_
  refine kxi (X := [(bo, .inl (cy 1, 1, .inr (.inl o)))]) (Y := []) (ws1 := [(bo, .inl (cy 1, 1, .inr (.inl o)))] ++ ((W_All cy aI aT adP adS adB adO adR adA aP aS aB aO aR aA aH ah imT imdP indP imdS imdB imdO imdR imdA indA imP inP imS mB' imO imR imA inA mH' hs') ++ [])) (xV (X := [(bo, .inl (cy 1, 1, .inr (.inl o)))]) (Y := []) (As := [.int x1, .int x2]) (rest := [.int (0 : Int32), .ref bo]) hC (c_X8_setCatch l hst D cy aI aT adP adS adB adO adR adA aP aS aB aO aR aA aH ah x1 x2 imT imdP indP imdS imdB imdO imdR imdA indA imP inP imS imB imO imR imA inA imH ihs k' r' mB' mH' hs' hE) (cwV 2 hts gL_setCatch_X8_setCatch rfl rfl rfl cd_X8_setCatch ⟨Nat.le_of_ble_eq_true rfl, Nat.le_of_ble_eq_true rfl⟩) hK hN hP hD hS hA rfl 0 8 rfl rfl rfl hl.1 rfl (lv_room (Nat.le_of_ble_eq_true rfl)) dL_setCatch_5 ⟨Nat.le_of_ble_eq_true rfl, Nat.le_of_ble_eq_true rfl⟩) hP hD hS hA rfl (fst_All cy aI aT adP adS adB adO adR adA aP aS aB aO aR aA aH ah imT imdP indP imdS imdB imdO imdR imdA indA imP inP imS imB imO imR imA inA imH ihs imT imdP indP imdS imdB imdO imdR imdA indA imP inP imS mB' imO imR imA inA mH' hs') rfl (fun hk0 H locs ce q9 hP hD hS hce hcv hcl => ?_) (fun hk0 H locs hP hD hS => ?_)
  · have ho1 : o = o' := by rw [if_neg hk0] at ho; exact ho
    rw [ho1] at hP hD
    rcases hk with ⟨a, b⟩ | ⟨a, b⟩ | ⟨a, b⟩
    · exact absurd a hk0
    · rw [a] at hcl
      refine kc (k := 1) (pre := []) (suf := [⟨0, 10, 17, 13⟩]) hown ⟨0, 10, 13, 21⟩ htab hX (by decide) (by decide) (fun z hz => absurd hz List.not_mem_nil) rfl (by decide) (hts _ (mC qg_L_21)) hce hcv hcl ?_
      refine W.eq (g2 := F0 m 13 ls [.ref q9]) rfl ?_
      refine lv_astore (lv' := [(4, .ref q9), (0, .ref (aI 0)), (1, .int x1), (2, .int x2), (3, .ref bo)]) hx hb dL_setCatch_13 hl (by decide) rfl (fun ls hl => ?_)
      refine lv_iconst (v := 1) hx hb dL_setCatch_15 (by decide) ?_
      exact ei hx hb hr hlocks hK hP hD hS b.symm rfl dL_setCatch_16
    · rw [a] at hcl
      refine kc (k := 2) (pre := [⟨0, 10, 13, 21⟩]) (suf := []) hown ⟨0, 10, 17, 13⟩ htab hX (by decide) (by decide) (fun z hz => by
        rcases List.mem_singleton.mp hz with rfl
        · exact ⟨by decide, 1, by decide, by decide, by decide, hts _ (mC qg_L_21)⟩) rfl (by decide) (hts _ (mC qg_L_13)) hce hcv hcl ?_
      refine W.eq (g2 := F0 m 17 ls [.ref q9]) rfl ?_
      refine lv_astore (lv' := [(4, .ref q9), (0, .ref (aI 0)), (1, .int x1), (2, .int x2), (3, .ref bo)]) hx hb dL_setCatch_17 hl (by decide) rfl (fun ls hl => ?_)
      refine lv_iconst (v := 2) hx hb dL_setCatch_19 (by decide) ?_
      exact ei hx hb hr hlocks hK hP hD hS b.symm rfl dL_setCatch_20
  · have ho1 : vp_updL o 0 (r'.toInt64) = o' := by rw [if_pos hk0] at ho; exact ho
    have hc0 : cd = 0 := by rcases hk with ⟨a, b⟩ | ⟨a, b⟩ | ⟨a, b⟩ <;> first | exact b | omega
    refine lv_i2l hx hb dL_setCatch_8 rfl ?_
    refine s_la (ws1 := [(bo, .inl (cy 1, 1, .inr (.inl o')))] ++ ((W_All cy aI aT adP adS adB adO adR adA aP aS aB aO aR aA aH ah imT imdP indP imdS imdB imdO imdR imdA indA imP inP imS mB' imO imR imA inA mH' hs') ++ [])) hx hb hK hP hD hS 0 rfl (show ¬ ((0 : Int32) < 0 ∨ 1 ≤ (0 : Int32).toNatClampNeg) by decide) (by rw [← ho1]; rfl) dL_setCatch_9 (fun H locs hP hD hS => ?_)
    refine lv_goto (tgt := 21) hx hb dL_setCatch_10 (by decide) ?_
    refine lv_iconst (v := 0) hx hb dL_setCatch_21 (by decide) ?_
    exact ei hx hb hr hlocks hK hP hD hS hc0.symm rfl dL_setCatch_22
abbrev rm_L_order : Room := { frames := 8, cells := 1, slots := 6, locals := 127 }
set_option maxHeartbeats 40000000 in
set_option maxRecDepth 100000 in
theorem c_L_order (l : Launch) (hst : l.stackTraces = false) (D : va_G) (cy : Nat → Nat) (aI aT adP adS adB adO adR adA aP aS aB aO aR aA aH : Nat → Nat) (ah : Nat → Nat → Nat → Nat) (bo : Nat) (x1 x2 x3 x4 : Int32) (imT : Mem) (imdP : Mem) (indP : MemL) (imdS : Mem) (imdB : Mem) (imdO : Mem) (imdR : Mem) (imdA : Mem) (indA : MemL) (imP : Mem) (inP : MemL) (imS : Mem) (imB : Mem) (imO : Mem) (imR : Mem) (imA : Mem) (inA : MemL) (imH : Mem) (ihs : (Nat → PSt)) (o o' : Nat → Int64) (k' : Nat) (r' : Int32) (mO' : Mem) (mH' : Mem) (hs' : (Nat → PSt)) (cd : Int32) (hk : k' = 0 ∧ cd = 0 ∨ k' = 1 ∧ cd = 1 ∨ k' = 2 ∧ cd = 2 ∨ k' = 3 ∧ cd = 3) (ho : (if k' = 0 then vp_updL o 0 r'.toInt64 else o) = o') (hE : f_X8_order x1 x2 x3 x4 imT imdP indP imdS imdB imdO imdR imdA indA imP inP imS imB imO imR imA inA imH ihs = some (k', r', mO', mH', hs')) : CH l yL_order wsL_order rm_L_order D cy [.ref (aI 0), .int x1, .int x2, .int x3, .int x4, .ref bo] ([(bo, .inl (cy 1, 1, .inr (.inl o)))] ++ ((W_All cy aI aT adP adS adB adO adR adA aP aS aB aO aR aA aH ah imT imdP indP imdS imdB imdO imdR imdA indA imP inP imS imB imO imR imA inA imH ihs) ++ [])) 1 6 (QI D cy cd ([(bo, .inl (cy 1, 1, .inr (.inl o')))] ++ ((W_All cy aI aT adP adS adB adO adR adA aP aS aB aO aR aA aH ah imT imdP indP imdS imdB imdO imdR imdA indA imP inP imS imB mO' imR imA inA mH' hs') ++ []))) := by
  refine CH_of (cc := cL_order) (maxL := 7) (ret := (some .int)) (hh := [(0, 14, 17, 21), (0, 14, 21, 13), (0, 14, 25, 15)]) (by decide) rfl (Nat.le_of_ble_eq_true rfl) (fun p e s m args below meth c A ls hx hb hr hml hlocks hown hts hA htab hK hN hX hP hD hS hl => ?_)
  have hown : s.vm.findClass RL = some m.cls := hown
  have hl : lv_has ls 7 [(0, .ref (aI 0)), (1, .int x1), (2, .int x2), (3, .int x3), (4, .int x4), (5, .ref bo)] := hl
  have hC : CallFix p m c cL_order 7 s args wsL_order RL := ⟨hx, hb, hml, hown, hts⟩
  refine lv_aload hx hb dL_order_0 (lv_at hl 5 rfl) ?_
  refine lv_iconst (v := 0) hx hb dL_order_2 (by decide) ?_
  refine lv_aload_n hx hb dL_order_3 rfl (lv_at hl 0 rfl) ?_
  refine lv_iload_n hx hb dL_order_4 rfl (lv_at hl 1 rfl) ?_
  refine lv_iload_n hx hb dL_order_5 rfl (lv_at hl 2 rfl) ?_
  refine lv_iload_n hx hb dL_order_6 rfl (lv_at hl 3 rfl) ?_
  refine lv_iload hx hb dL_order_7 (lv_at hl 4 rfl) ?_
  refine kxi (X := [(bo, .inl (cy 1, 1, .inr (.inl o)))]) (Y := []) (ws1 := [(bo, .inl (cy 1, 1, .inr (.inl o)))] ++ ((W_All cy aI aT adP adS adB adO adR adA aP aS aB aO aR aA aH ah imT imdP indP imdS imdB imdO imdR imdA indA imP inP imS imB mO' imR imA inA mH' hs') ++ [])) (xV (X := [(bo, .inl (cy 1, 1, .inr (.inl o)))]) (Y := []) (As := [.int x1, .int x2, .int x3, .int x4]) (rest := [.int (0 : Int32), .ref bo]) hC (c_X8_order l hst D cy aI aT adP adS adB adO adR adA aP aS aB aO aR aA aH ah x1 x2 x3 x4 imT imdP indP imdS imdB imdO imdR imdA indA imP inP imS imB imO imR imA inA imH ihs k' r' mO' mH' hs' hE) (cwV 4 hts gL_order_X8_order rfl rfl rfl cd_X8_order ⟨Nat.le_of_ble_eq_true rfl, Nat.le_of_ble_eq_true rfl⟩) hK hN hP hD hS hA rfl 0 8 rfl rfl rfl hl.1 rfl (lv_room (Nat.le_of_ble_eq_true rfl)) dL_order_9 ⟨Nat.le_of_ble_eq_true rfl, Nat.le_of_ble_eq_true rfl⟩) hP hD hS hA rfl (fst_All cy aI aT adP adS adB adO adR adA aP aS aB aO aR aA aH ah imT imdP indP imdS imdB imdO imdR imdA indA imP inP imS imB imO imR imA inA imH ihs imT imdP indP imdS imdB imdO imdR imdA indA imP inP imS imB mO' imR imA inA mH' hs') rfl (fun hk0 H locs ce q9 hP hD hS hce hcv hcl => ?_) (fun hk0 H locs hP hD hS => ?_)
  · have ho1 : o = o' := by rw [if_neg hk0] at ho; exact ho
    rw [ho1] at hP hD
    rcases hk with ⟨a, b⟩ | ⟨a, b⟩ | ⟨a, b⟩ | ⟨a, b⟩
    · exact absurd a hk0
    · rw [a] at hcl
      refine kc (k := 1) (pre := []) (suf := [⟨0, 14, 21, 13⟩, ⟨0, 14, 25, 15⟩]) hown ⟨0, 14, 17, 21⟩ htab hX (by decide) (by decide) (fun z hz => absurd hz List.not_mem_nil) rfl (by decide) (hts _ (mC qg_L_21)) hce hcv hcl ?_
      refine W.eq (g2 := F0 m 17 ls [.ref q9]) rfl ?_
      refine lv_astore (lv' := [(6, .ref q9), (0, .ref (aI 0)), (1, .int x1), (2, .int x2), (3, .int x3), (4, .int x4), (5, .ref bo)]) hx hb dL_order_17 hl (by decide) rfl (fun ls hl => ?_)
      refine lv_iconst (v := 1) hx hb dL_order_19 (by decide) ?_
      exact ei hx hb hr hlocks hK hP hD hS b.symm rfl dL_order_20
    · rw [a] at hcl
      refine kc (k := 2) (pre := [⟨0, 14, 17, 21⟩]) (suf := [⟨0, 14, 25, 15⟩]) hown ⟨0, 14, 21, 13⟩ htab hX (by decide) (by decide) (fun z hz => by
        rcases List.mem_singleton.mp hz with rfl
        · exact ⟨by decide, 1, by decide, by decide, by decide, hts _ (mC qg_L_21)⟩) rfl (by decide) (hts _ (mC qg_L_13)) hce hcv hcl ?_
      refine W.eq (g2 := F0 m 21 ls [.ref q9]) rfl ?_
      refine lv_astore (lv' := [(6, .ref q9), (0, .ref (aI 0)), (1, .int x1), (2, .int x2), (3, .int x3), (4, .int x4), (5, .ref bo)]) hx hb dL_order_21 hl (by decide) rfl (fun ls hl => ?_)
      refine lv_iconst (v := 2) hx hb dL_order_23 (by decide) ?_
      exact ei hx hb hr hlocks hK hP hD hS b.symm rfl dL_order_24
    · rw [a] at hcl
      refine kc (k := 3) (pre := [⟨0, 14, 17, 21⟩, ⟨0, 14, 21, 13⟩]) (suf := []) hown ⟨0, 14, 25, 15⟩ htab hX (by decide) (by decide) (fun z hz => by
        rcases List.mem_cons.mp hz with rfl | hz
        · exact ⟨by decide, 1, by decide, by decide, by decide, hts _ (mC qg_L_21)⟩
        · rcases List.mem_singleton.mp hz with rfl
          exact ⟨by decide, 2, by decide, by decide, by decide, hts _ (mC qg_L_13)⟩) rfl (by decide) (hts _ (mC qg_L_15)) hce hcv hcl ?_
      refine W.eq (g2 := F0 m 25 ls [.ref q9]) rfl ?_
      refine lv_astore (lv' := [(6, .ref q9), (0, .ref (aI 0)), (1, .int x1), (2, .int x2), (3, .int x3), (4, .int x4), (5, .ref bo)]) hx hb dL_order_25 hl (by decide) rfl (fun ls hl => ?_)
      refine lv_iconst (v := 3) hx hb dL_order_27 (by decide) ?_
      exact ei hx hb hr hlocks hK hP hD hS b.symm rfl dL_order_28
  · have ho1 : vp_updL o 0 (r'.toInt64) = o' := by rw [if_pos hk0] at ho; exact ho
    have hc0 : cd = 0 := by rcases hk with ⟨a, b⟩ | ⟨a, b⟩ | ⟨a, b⟩ | ⟨a, b⟩ <;> first | exact b | omega
    refine lv_i2l hx hb dL_order_12 rfl ?_
    refine s_la (ws1 := [(bo, .inl (cy 1, 1, .inr (.inl o')))] ++ ((W_All cy aI aT adP adS adB adO adR adA aP aS aB aO aR aA aH ah imT imdP indP imdS imdB imdO imdR imdA indA imP inP imS imB mO' imR imA inA mH' hs') ++ [])) hx hb hK hP hD hS 0 rfl (show ¬ ((0 : Int32) < 0 ∨ 1 ≤ (0 : Int32).toNatClampNeg) by decide) (by rw [← ho1]; rfl) dL_order_13 (fun H locs hP hD hS => ?_)
    refine lv_goto (tgt := 29) hx hb dL_order_14 (by decide) ?_
    refine lv_iconst (v := 0) hx hb dL_order_29 (by decide) ?_
    exact ei hx hb hr hlocks hK hP hD hS hc0.symm rfl dL_order_30
