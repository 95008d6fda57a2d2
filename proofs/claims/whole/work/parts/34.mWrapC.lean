abbrev rm_L_total : Room := { frames := 9, cells := 1, slots := 6, locals := 143 }
set_option maxHeartbeats 40000000 in
set_option maxRecDepth 100000 in
theorem c_L_total (l : Launch) (hst : l.stackTraces = false) (D : va_G) (cy : Nat → Nat) (aI aT adP adS adB adO adR adA aP aS aB aO aR aA aH : Nat → Nat) (ah : Nat → Nat → Nat → Nat) (bo : Nat) (x1 : Int32) (imT : Mem) (imdP : Mem) (indP : MemL) (imdS : Mem) (imdB : Mem) (imdO : Mem) (imdR : Mem) (imdA : Mem) (indA : MemL) (imP : Mem) (inP : MemL) (imS : Mem) (imB : Mem) (imO : Mem) (imR : Mem) (imA : Mem) (inA : MemL) (imH : Mem) (ihs : (Nat → PSt)) (o o' : Nat → Int64) (k' : Nat) (r' : Int64)  (cd : Int32) (hk : k' = 0 ∧ cd = 0 ∨ k' = 2 ∧ cd = 1) (ho : (if k' = 0 then vp_updL o 0 r' else o) = o') (hE : f_X8_total x1 imT imdP indP imdS imdB imdO imdR imdA indA imP inP imS imB imO imR imA inA imH ihs = some (k', r')) : CH l yL_total wsL_total rm_L_total D cy [.ref (aI 0), .int x1, .ref bo] ([(bo, .inl (cy 1, 1, .inr (.inl o)))] ++ ((W_All cy aI aT adP adS adB adO adR adA aP aS aB aO aR aA aH ah imT imdP indP imdS imdB imdO imdR imdA indA imP inP imS imB imO imR imA inA imH ihs) ++ [])) 1 6 (QI D cy cd ([(bo, .inl (cy 1, 1, .inr (.inl o')))] ++ ((W_All cy aI aT adP adS adB adO adR adA aP aS aB aO aR aA aH ah imT imdP indP imdS imdB imdO imdR imdA indA imP inP imS imB imO imR imA inA imH ihs) ++ []))) := by
  refine CH_of (cc := cL_total) (maxL := 4) (ret := (some .int)) (hh := [(0, 8, 11, 13)]) (by decide) rfl (Nat.le_of_ble_eq_true rfl) (fun p e s m args below meth c A ls hx hb hr hml hlocks hown hts hA htab hK hN hX hP hD hS hl => ?_)
  have hown : s.vm.findClass RL = some m.cls := hown
  have hl : lv_has ls 4 [(0, .ref (aI 0)), (1, .int x1), (2, .ref bo)] := hl
  have hC : CallFix p m c cL_total 4 s args wsL_total RL := ⟨hx, hb, hml, hown, hts⟩
  refine lv_aload_n hx hb dL_total_0 rfl (lv_at hl 2 rfl) ?_
  refine lv_iconst (v := 0) hx hb dL_total_1 (by decide) ?_
  refine lv_aload_n hx hb dL_total_2 rfl (lv_at hl 0 rfl) ?_
  refine lv_iload_n hx hb dL_total_3 rfl (lv_at hl 1 rfl) ?_
  refine kxl (X := [(bo, .inl (cy 1, 1, .inr (.inl o)))]) (Y := []) (ws1 := [(bo, .inl (cy 1, 1, .inr (.inl o)))] ++ ((W_All cy aI aT adP adS adB adO adR adA aP aS aB aO aR aA aH ah imT imdP indP imdS imdB imdO imdR imdA indA imP inP imS imB imO imR imA inA imH ihs) ++ [])) (xV (X := [(bo, .inl (cy 1, 1, .inr (.inl o)))]) (Y := []) (As := [.int x1]) (rest := [.int (0 : Int32), .ref bo]) hC (c_X8_total l hst D cy aI aT adP adS adB adO adR adA aP aS aB aO aR aA aH ah x1 imT imdP indP imdS imdB imdO imdR imdA indA imP inP imS imB imO imR imA inA imH ihs k' r' hE) (cwV 1 hts gL_total_X8_total rfl rfl rfl cd_X8_total ⟨Nat.le_of_ble_eq_true rfl, Nat.le_of_ble_eq_true rfl⟩) hK hN hP hD hS hA rfl 0 8 rfl rfl rfl hl.1 rfl (lv_room (Nat.le_of_ble_eq_true rfl)) dL_total_4 ⟨Nat.le_of_ble_eq_true rfl, Nat.le_of_ble_eq_true rfl⟩) hP hD hS hA rfl (fst_All cy aI aT adP adS adB adO adR adA aP aS aB aO aR aA aH ah imT imdP indP imdS imdB imdO imdR imdA indA imP inP imS imB imO imR imA inA imH ihs imT imdP indP imdS imdB imdO imdR imdA indA imP inP imS imB imO imR imA inA imH ihs) rfl (fun hk0 H locs ce q9 hP hD hS hce hcv hcl => ?_) (fun hk0 H locs hP hD hS => ?_)
  · have ho1 : o = o' := by rw [if_neg hk0] at ho; exact ho
    rw [ho1] at hP hD
    rcases hk with ⟨a, b⟩ | ⟨a, b⟩
    · exact absurd a hk0
    · rw [a] at hcl
      refine kc (k := 2) (pre := []) (suf := []) hown ⟨0, 8, 11, 13⟩ htab hX (by decide) (by decide) (fun z hz => absurd hz List.not_mem_nil) rfl (by decide) (hts _ (mC qg_L_13)) hce hcv hcl ?_
      refine W.eq (g2 := F0 m 11 ls [.ref q9]) rfl ?_
      refine lv_astore_n (lv' := [(3, .ref q9), (0, .ref (aI 0)), (1, .int x1), (2, .ref bo)]) hx hb dL_total_11 rfl hl (by decide) rfl (fun ls hl => ?_)
      refine lv_iconst (v := 1) hx hb dL_total_12 (by decide) ?_
      exact ei hx hb hr hlocks hK hP hD hS b.symm rfl dL_total_13
  · have ho1 : vp_updL o 0 r' = o' := by rw [if_pos hk0] at ho; exact ho
    have hc0 : cd = 0 := by rcases hk with ⟨a, b⟩ | ⟨a, b⟩ <;> first | exact b | omega
    refine s_la (ws1 := [(bo, .inl (cy 1, 1, .inr (.inl o')))] ++ ((W_All cy aI aT adP adS adB adO adR adA aP aS aB aO aR aA aH ah imT imdP indP imdS imdB imdO imdR imdA indA imP inP imS imB imO imR imA inA imH ihs) ++ [])) hx hb hK hP hD hS 0 rfl (show ¬ ((0 : Int32) < 0 ∨ 1 ≤ (0 : Int32).toNatClampNeg) by decide) (by rw [← ho1]; rfl) dL_total_7 (fun H locs hP hD hS => ?_)
    refine lv_goto (tgt := 14) hx hb dL_total_8 (by decide) ?_
    refine lv_iconst (v := 0) hx hb dL_total_14 (by decide) ?_
    exact ei hx hb hr hlocks hK hP hD hS hc0.symm rfl dL_total_15
abbrev rm_L_massAfter : Room := { frames := 9, cells := 1, slots := 6, locals := 166 }
set_option maxHeartbeats 40000000 in
set_option maxRecDepth 100000 in
theorem c_L_massAfter (l : Launch) (hst : l.stackTraces = false) (D : va_G) (cy : Nat → Nat) (aI aT adP adS adB adO adR adA aP aS aB aO aR aA aH : Nat → Nat) (ah : Nat → Nat → Nat → Nat) (bo : Nat) (x1 : Int32) (imT : Mem) (imdP : Mem) (indP : MemL) (imdS : Mem) (imdB : Mem) (imdO : Mem) (imdR : Mem) (imdA : Mem) (indA : MemL) (imP : Mem) (inP : MemL) (imS : Mem) (imB : Mem) (imO : Mem) (imR : Mem) (imA : Mem) (inA : MemL) (imH : Mem) (ihs : (Nat → PSt)) (o o' : Nat → Int64) (k' : Nat) (r' : Int32) (mdP' : Mem) (ndP' : MemL) (mdS' : Mem) (mdB' : Mem) (mdO' : Mem) (mdR' : Mem) (mdA' : Mem) (ndA' : MemL) (cd : Int32) (hk : k' = 0 ∧ cd = 0 ∨ k' = 2 ∧ cd = 1) (ho : (if k' = 0 then vp_updL o 0 r'.toInt64 else o) = o') (hE : f_X8_massAfter x1 imT imdP indP imdS imdB imdO imdR imdA indA imP inP imS imB imO imR imA inA imH ihs = some (k', r', mdP', ndP', mdS', mdB', mdO', mdR', mdA', ndA')) : CH l yL_massAfter wsL_massAfter rm_L_massAfter D cy [.ref (aI 0), .int x1, .ref bo] ([(bo, .inl (cy 1, 1, .inr (.inl o)))] ++ ((W_All cy aI aT adP adS adB adO adR adA aP aS aB aO aR aA aH ah imT imdP indP imdS imdB imdO imdR imdA indA imP inP imS imB imO imR imA inA imH ihs) ++ [])) 1 6 (QI D cy cd ([(bo, .inl (cy 1, 1, .inr (.inl o')))] ++ ((W_All cy aI aT adP adS adB adO adR adA aP aS aB aO aR aA aH ah imT mdP' ndP' mdS' mdB' mdO' mdR' mdA' ndA' imP inP imS imB imO imR imA inA imH ihs) ++ []))) := by
  refine CH_of (cc := cL_massAfter) (maxL := 4) (ret := (some .int)) (hh := [(0, 9, 12, 13)]) (by decide) rfl (Nat.le_of_ble_eq_true rfl) (fun p e s m args below meth c A ls hx hb hr hml hlocks hown hts hA htab hK hN hX hP hD hS hl => ?_)
  have hown : s.vm.findClass RL = some m.cls := hown
  have hl : lv_has ls 4 [(0, .ref (aI 0)), (1, .int x1), (2, .ref bo)] := hl
  have hC : CallFix p m c cL_massAfter 4 s args wsL_massAfter RL := ⟨hx, hb, hml, hown, hts⟩
  refine lv_aload_n hx hb dL_massAfter_0 rfl (lv_at hl 2 rfl) ?_
  refine lv_iconst (v := 0) hx hb dL_massAfter_1 (by decide) ?_
  refine lv_aload_n hx hb dL_massAfter_2 rfl (lv_at hl 0 rfl) ?_
  refine lv_iload_n hx hb dL_massAfter_3 rfl (lv_at hl 1 rfl) ?_
  refine kxi (X := [(bo, .inl (cy 1, 1, .inr (.inl o)))]) (Y := []) (ws1 := [(bo, .inl (cy 1, 1, .inr (.inl o)))] ++ ((W_All cy aI aT adP adS adB adO adR adA aP aS aB aO aR aA aH ah imT mdP' ndP' mdS' mdB' mdO' mdR' mdA' ndA' imP inP imS imB imO imR imA inA imH ihs) ++ [])) (xV (X := [(bo, .inl (cy 1, 1, .inr (.inl o)))]) (Y := []) (As := [.int x1]) (rest := [.int (0 : Int32), .ref bo]) hC (c_X8_massAfter l hst D cy aI aT adP adS adB adO adR adA aP aS aB aO aR aA aH ah x1 imT imdP indP imdS imdB imdO imdR imdA indA imP inP imS imB imO imR imA inA imH ihs k' r' mdP' ndP' mdS' mdB' mdO' mdR' mdA' ndA' hE) (cwV 1 hts gL_massAfter_X8_massAfter rfl rfl rfl cd_X8_massAfter ⟨Nat.le_of_ble_eq_true rfl, Nat.le_of_ble_eq_true rfl⟩) hK hN hP hD hS hA rfl 0 8 rfl rfl rfl hl.1 rfl (lv_room (Nat.le_of_ble_eq_true rfl)) dL_massAfter_4 ⟨Nat.le_of_ble_eq_true rfl, Nat.le_of_ble_eq_true rfl⟩) hP hD hS hA rfl (fst_All cy aI aT adP adS adB adO adR adA aP aS aB aO aR aA aH ah imT imdP indP imdS imdB imdO imdR imdA indA imP inP imS imB imO imR imA inA imH ihs imT mdP' ndP' mdS' mdB' mdO' mdR' mdA' ndA' imP inP imS imB imO imR imA inA imH ihs) rfl (fun hk0 H locs ce q9 hP hD hS hce hcv hcl => ?_) (fun hk0 H locs hP hD hS => ?_)
  · have ho1 : o = o' := by rw [if_neg hk0] at ho; exact ho
    rw [ho1] at hP hD
    rcases hk with ⟨a, b⟩ | ⟨a, b⟩
    · exact absurd a hk0
    · rw [a] at hcl
      refine kc (k := 2) (pre := []) (suf := []) hown ⟨0, 9, 12, 13⟩ htab hX (by decide) (by decide) (fun z hz => absurd hz List.not_mem_nil) rfl (by decide) (hts _ (mC qg_L_13)) hce hcv hcl ?_
      refine W.eq (g2 := F0 m 12 ls [.ref q9]) rfl ?_
      refine lv_astore_n (lv' := [(3, .ref q9), (0, .ref (aI 0)), (1, .int x1), (2, .ref bo)]) hx hb dL_massAfter_12 rfl hl (by decide) rfl (fun ls hl => ?_)
      refine lv_iconst (v := 1) hx hb dL_massAfter_13 (by decide) ?_
      exact ei hx hb hr hlocks hK hP hD hS b.symm rfl dL_massAfter_14
  · have ho1 : vp_updL o 0 (r'.toInt64) = o' := by rw [if_pos hk0] at ho; exact ho
    have hc0 : cd = 0 := by rcases hk with ⟨a, b⟩ | ⟨a, b⟩ <;> first | exact b | omega
    refine lv_i2l hx hb dL_massAfter_7 rfl ?_
    refine s_la (ws1 := [(bo, .inl (cy 1, 1, .inr (.inl o')))] ++ ((W_All cy aI aT adP adS adB adO adR adA aP aS aB aO aR aA aH ah imT mdP' ndP' mdS' mdB' mdO' mdR' mdA' ndA' imP inP imS imB imO imR imA inA imH ihs) ++ [])) hx hb hK hP hD hS 0 rfl (show ¬ ((0 : Int32) < 0 ∨ 1 ≤ (0 : Int32).toNatClampNeg) by decide) (by rw [← ho1]; rfl) dL_massAfter_8 (fun H locs hP hD hS => ?_)
    refine lv_goto (tgt := 15) hx hb dL_massAfter_9 (by decide) ?_
    refine lv_iconst (v := 0) hx hb dL_massAfter_15 (by decide) ?_
    exact ei hx hb hr hlocks hK hP hD hS hc0.symm rfl dL_massAfter_16
abbrev rm_L_completeIn : Room := { frames := 9, cells := 2, slots := 12, locals := 144 }
set_option maxHeartbeats 40000000 in
set_option maxRecDepth 100000 in
theorem c_L_completeIn (l : Launch) (hst : l.stackTraces = false) (D : va_G) (cy : Nat → Nat) (aI aT adP adS adB adO adR adA aP aS aB aO aR aA aH : Nat → Nat) (ah : Nat → Nat → Nat → Nat) (bo : Nat) (x1 : Int32) (imT : Mem) (imdP : Mem) (indP : MemL) (imdS : Mem) (imdB : Mem) (imdO : Mem) (imdR : Mem) (imdA : Mem) (indA : MemL) (imP : Mem) (inP : MemL) (imS : Mem) (imB : Mem) (imO : Mem) (imR : Mem) (imA : Mem) (inA : MemL) (imH : Mem) (ihs : (Nat → PSt)) (o o' : Nat → Int64) (k' : Nat) (r' : Int32) (mdP' : Mem) (ndP' : MemL) (mdS' : Mem) (mdB' : Mem) (mdO' : Mem) (mdR' : Mem) (mdA' : Mem) (ndA' : MemL) (cd : Int32) (hk : k' = 0 ∧ cd = 0 ∨ k' = 1 ∧ cd = 1 ∨ k' = 3 ∧ cd = 2) (ho : (if k' = 0 then vp_updL o 0 r'.toInt64 else o) = o') (hE : f_X8_completeIn x1 imT imdP indP imdS imdB imdO imdR imdA indA imP inP imS imB imO imR imA inA imH ihs = some (k', r', mdP', ndP', mdS', mdB', mdO', mdR', mdA', ndA')) : CH l yL_completeIn wsL_completeIn rm_L_completeIn D cy [.ref (aI 0), .int x1, .ref bo] ([(bo, .inl (cy 1, 1, .inr (.inl o)))] ++ ((W_All cy aI aT adP adS adB adO adR adA aP aS aB aO aR aA aH ah imT imdP indP imdS imdB imdO imdR imdA indA imP inP imS imB imO imR imA inA imH ihs) ++ [])) 2 12 (QI D cy cd ([(bo, .inl (cy 1, 1, .inr (.inl o')))] ++ ((W_All cy aI aT adP adS adB adO adR adA aP aS aB aO aR aA aH ah imT mdP' ndP' mdS' mdB' mdO' mdR' mdA' ndA' imP inP imS imB imO imR imA inA imH ihs) ++ []))) := by
  refine CH_of (cc := cL_completeIn) (maxL := 4) (ret := (some .int)) (hh := [(0, 9, 12, 21), (0, 9, 15, 15)]) (by decide) rfl (Nat.le_of_ble_eq_true rfl) (fun p e s m args below meth c A ls hx hb hr hml hlocks hown hts hA htab hK hN hX hP hD hS hl => ?_)
  have hown : s.vm.findClass RL = some m.cls := hown
  have hl : lv_has ls 4 [(0, .ref (aI 0)), (1, .int x1), (2, .ref bo)] := hl
  have hC : CallFix p m c cL_completeIn 4 s args wsL_completeIn RL := ⟨hx, hb, hml, hown, hts⟩
  refine lv_aload_n hx hb dL_completeIn_0 rfl (lv_at hl 2 rfl) ?_
  refine lv_iconst (v := 0) hx hb dL_completeIn_1 (by decide) ?_
  refine lv_aload_n hx hb dL_completeIn_2 rfl (lv_at hl 0 rfl) ?_
  refine lv_iload_n hx hb dL_completeIn_3 rfl (lv_at hl 1 rfl) ?_
  refine kxi (X := [(bo, .inl (cy 1, 1, .inr (.inl o)))]) (Y := []) (ws1 := [(bo, .inl (cy 1, 1, .inr (.inl o)))] ++ ((W_All cy aI aT adP adS adB adO adR adA aP aS aB aO aR aA aH ah imT mdP' ndP' mdS' mdB' mdO' mdR' mdA' ndA' imP inP imS imB imO imR imA inA imH ihs) ++ [])) (xV (X := [(bo, .inl (cy 1, 1, .inr (.inl o)))]) (Y := []) (As := [.int x1]) (rest := [.int (0 : Int32), .ref bo]) hC (c_X8_completeIn l hst D cy aI aT adP adS adB adO adR adA aP aS aB aO aR aA aH ah x1 imT imdP indP imdS imdB imdO imdR imdA indA imP inP imS imB imO imR imA inA imH ihs k' r' mdP' ndP' mdS' mdB' mdO' mdR' mdA' ndA' hE) (cwV 1 hts gL_completeIn_X8_completeIn rfl rfl rfl cd_X8_completeIn ⟨Nat.le_of_ble_eq_true rfl, Nat.le_of_ble_eq_true rfl⟩) hK hN hP hD hS hA rfl 0 8 rfl rfl rfl hl.1 rfl (lv_room (Nat.le_of_ble_eq_true rfl)) dL_completeIn_4 ⟨Nat.le_of_ble_eq_true rfl, Nat.le_of_ble_eq_true rfl⟩) hP hD hS hA rfl (fst_All cy aI aT adP adS adB adO adR adA aP aS aB aO aR aA aH ah imT imdP indP imdS imdB imdO imdR imdA indA imP inP imS imB imO imR imA inA imH ihs imT mdP' ndP' mdS' mdB' mdO' mdR' mdA' ndA' imP inP imS imB imO imR imA inA imH ihs) rfl (fun hk0 H locs ce q9 hP hD hS hce hcv hcl => ?_) (fun hk0 H locs hP hD hS => ?_)
  · have ho1 : o = o' := by rw [if_neg hk0] at ho; exact ho
    rw [ho1] at hP hD
    rcases hk with ⟨a, b⟩ | ⟨a, b⟩ | ⟨a, b⟩
    · exact absurd a hk0
    · rw [a] at hcl
      refine kc (k := 1) (pre := []) (suf := [⟨0, 9, 15, 15⟩]) hown ⟨0, 9, 12, 21⟩ htab hX (by decide) (by decide) (fun z hz => absurd hz List.not_mem_nil) rfl (by decide) (hts _ (mC qg_L_21)) hce hcv hcl ?_
      refine W.eq (g2 := F0 m 12 ls [.ref q9]) rfl ?_
      refine lv_astore_n (lv' := [(3, .ref q9), (0, .ref (aI 0)), (1, .int x1), (2, .ref bo)]) hx hb dL_completeIn_12 rfl hl (by decide) rfl (fun ls hl => ?_)
      refine lv_iconst (v := 1) hx hb dL_completeIn_13 (by decide) ?_
      exact ei hx hb hr hlocks hK hP hD hS b.symm rfl dL_completeIn_14
    · rw [a] at hcl
      refine kc (k := 3) (pre := [⟨0, 9, 12, 21⟩]) (suf := []) hown ⟨0, 9, 15, 15⟩ htab hX (by decide) (by decide) (fun z hz => by
        rcases List.mem_singleton.mp hz with rfl
        · exact ⟨by decide, 1, by decide, by decide, by decide, hts _ (mC qg_L_21)⟩) rfl (by decide) (hts _ (mC qg_L_15)) hce hcv hcl ?_
      refine W.eq (g2 := F0 m 15 ls [.ref q9]) rfl ?_
      refine lv_astore_n (lv' := [(3, .ref q9), (0, .ref (aI 0)), (1, .int x1), (2, .ref bo)]) hx hb dL_completeIn_15 rfl hl (by decide) rfl (fun ls hl => ?_)
      refine lv_iconst (v := 2) hx hb dL_completeIn_16 (by decide) ?_
      exact ei hx hb hr hlocks hK hP hD hS b.symm rfl dL_completeIn_17
  · have ho1 : vp_updL o 0 (r'.toInt64) = o' := by rw [if_pos hk0] at ho; exact ho
    have hc0 : cd = 0 := by rcases hk with ⟨a, b⟩ | ⟨a, b⟩ | ⟨a, b⟩ <;> first | exact b | omega
    refine lv_i2l hx hb dL_completeIn_7 rfl ?_
    refine s_la (ws1 := [(bo, .inl (cy 1, 1, .inr (.inl o')))] ++ ((W_All cy aI aT adP adS adB adO adR adA aP aS aB aO aR aA aH ah imT mdP' ndP' mdS' mdB' mdO' mdR' mdA' ndA' imP inP imS imB imO imR imA inA imH ihs) ++ [])) hx hb hK hP hD hS 0 rfl (show ¬ ((0 : Int32) < 0 ∨ 1 ≤ (0 : Int32).toNatClampNeg) by decide) (by rw [← ho1]; rfl) dL_completeIn_8 (fun H locs hP hD hS => ?_)
    refine lv_goto (tgt := 18) hx hb dL_completeIn_9 (by decide) ?_
    refine lv_iconst (v := 0) hx hb dL_completeIn_18 (by decide) ?_
    exact ei hx hb hr hlocks hK hP hD hS hc0.symm rfl dL_completeIn_19
abbrev rm_L_bestRule : Room := { frames := 9, cells := 2, slots := 12, locals := 194 }
set_option maxHeartbeats 40000000 in
set_option maxRecDepth 100000 in
theorem c_L_bestRule (l : Launch) (hst : l.stackTraces = false) (D : va_G) (cy : Nat → Nat) (aI aT adP adS adB adO adR adA aP aS aB aO aR aA aH : Nat → Nat) (ah : Nat → Nat → Nat → Nat) (bo : Nat) (x1 x2 : Int32) (imT : Mem) (imdP : Mem) (indP : MemL) (imdS : Mem) (imdB : Mem) (imdO : Mem) (imdR : Mem) (imdA : Mem) (indA : MemL) (imP : Mem) (inP : MemL) (imS : Mem) (imB : Mem) (imO : Mem) (imR : Mem) (imA : Mem) (inA : MemL) (imH : Mem) (ihs : (Nat → PSt)) (o o' : Nat → Int64) (k' : Nat) (r' : Int32) (mdP' : Mem) (ndP' : MemL) (mdS' : Mem) (mdB' : Mem) (mdO' : Mem) (mdR' : Mem) (mdA' : Mem) (ndA' : MemL) (cd : Int32) (hk : k' = 0 ∧ cd = 0 ∨ k' = 1 ∧ cd = 1 ∨ k' = 2 ∧ cd = 2) (ho : (if k' = 0 then vp_updL o 0 r'.toInt64 else o) = o') (hE : f_X8_bestRule x1 x2 imT imdP indP imdS imdB imdO imdR imdA indA imP inP imS imB imO imR imA inA imH ihs = some (k', r', mdP', ndP', mdS', mdB', mdO', mdR', mdA', ndA')) : CH l yL_bestRule wsL_bestRule rm_L_bestRule D cy [.ref (aI 0), .int x1, .int x2, .ref bo] ([(bo, .inl (cy 1, 1, .inr (.inl o)))] ++ ((W_All cy aI aT adP adS adB adO adR adA aP aS aB aO aR aA aH ah imT imdP indP imdS imdB imdO imdR imdA indA imP inP imS imB imO imR imA inA imH ihs) ++ [])) 2 12 (QI D cy cd ([(bo, .inl (cy 1, 1, .inr (.inl o')))] ++ ((W_All cy aI aT adP adS adB adO adR adA aP aS aB aO aR aA aH ah imT mdP' ndP' mdS' mdB' mdO' mdR' mdA' ndA' imP inP imS imB imO imR imA inA imH ihs) ++ []))) := by
  refine CH_of (cc := cL_bestRule) (maxL := 5) (ret := (some .int)) (hh := [(0, 10, 13, 21), (0, 10, 17, 13)]) (by decide) rfl (Nat.le_of_ble_eq_true rfl) (fun p e s m args below meth c A ls hx hb hr hml hlocks hown hts hA htab hK hN hX hP hD hS hl => ?_)
  have hown : s.vm.findClass RL = some m.cls := hown
  have hl : lv_has ls 5 [(0, .ref (aI 0)), (1, .int x1), (2, .int x2), (3, .ref bo)] := hl
  have hC : CallFix p m c cL_bestRule 5 s args wsL_bestRule RL := ⟨hx, hb, hml, hown, hts⟩
  refine lv_aload_n hx hb dL_bestRule_0 rfl (lv_at hl 3 rfl) ?_
  refine lv_iconst (v := 0) hx hb dL_bestRule_1 (by decide) ?_
  refine lv_aload_n hx hb dL_bestRule_2 rfl (lv_at hl 0 rfl) ?_
  refine lv_iload_n hx hb dL_bestRule_3 rfl (lv_at hl 1 rfl) ?_
  refine lv_iload_n hx hb dL_bestRule_4 rfl (lv_at hl 2 rfl) ?_
  refine kxi (X := [(bo, .inl (cy 1, 1, .inr (.inl o)))]) (Y := []) (ws1 := [(bo, .inl (cy 1, 1, .inr (.inl o)))] ++ ((W_All cy aI aT adP adS adB adO adR adA aP aS aB aO aR aA aH ah imT mdP' ndP' mdS' mdB' mdO' mdR' mdA' ndA' imP inP imS imB imO imR imA inA imH ihs) ++ [])) (xV (X := [(bo, .inl (cy 1, 1, .inr (.inl o)))]) (Y := []) (As := [.int x1, .int x2]) (rest := [.int (0 : Int32), .ref bo]) hC (c_X8_bestRule l hst D cy aI aT adP adS adB adO adR adA aP aS aB aO aR aA aH ah x1 x2 imT imdP indP imdS imdB imdO imdR imdA indA imP inP imS imB imO imR imA inA imH ihs k' r' mdP' ndP' mdS' mdB' mdO' mdR' mdA' ndA' hE) (cwV 2 hts gL_bestRule_X8_bestRule rfl rfl rfl cd_X8_bestRule ⟨Nat.le_of_ble_eq_true rfl, Nat.le_of_ble_eq_true rfl⟩) hK hN hP hD hS hA rfl 0 8 rfl rfl rfl hl.1 rfl (lv_room (Nat.le_of_ble_eq_true rfl)) dL_bestRule_5 ⟨Nat.le_of_ble_eq_true rfl, Nat.le_of_ble_eq_true rfl⟩) hP hD hS hA rfl (fst_All cy aI aT adP adS adB adO adR adA aP aS aB aO aR aA aH ah imT imdP indP imdS imdB imdO imdR imdA indA imP inP imS imB imO imR imA inA imH ihs imT mdP' ndP' mdS' mdB' mdO' mdR' mdA' ndA' imP inP imS imB imO imR imA inA imH ihs) rfl (fun hk0 H locs ce q9 hP hD hS hce hcv hcl => ?_) (fun hk0 H locs hP hD hS => ?_)
  · have ho1 : o = o' := by rw [if_neg hk0] at ho; exact ho
    rw [ho1] at hP hD
    rcases hk with ⟨a, b⟩ | ⟨a, b⟩ | ⟨a, b⟩
    · exact absurd a hk0
    · rw [a] at hcl
      refine kc (k := 1) (pre := []) (suf := [⟨0, 10, 17, 13⟩]) hown ⟨0, 10, 13, 21⟩ htab hX (by decide) (by decide) (fun z hz => absurd hz List.not_mem_nil) rfl (by decide) (hts _ (mC qg_L_21)) hce hcv hcl ?_
      refine W.eq (g2 := F0 m 13 ls [.ref q9]) rfl ?_
      refine lv_astore (lv' := [(4, .ref q9), (0, .ref (aI 0)), (1, .int x1), (2, .int x2), (3, .ref bo)]) hx hb dL_bestRule_13 hl (by decide) rfl (fun ls hl => ?_)
      refine lv_iconst (v := 1) hx hb dL_bestRule_15 (by decide) ?_
      exact ei hx hb hr hlocks hK hP hD hS b.symm rfl dL_bestRule_16
    · rw [a] at hcl
      refine kc (k := 2) (pre := [⟨0, 10, 13, 21⟩]) (suf := []) hown ⟨0, 10, 17, 13⟩ htab hX (by decide) (by decide) (fun z hz => by
        rcases List.mem_singleton.mp hz with rfl
        · exact ⟨by decide, 1, by decide, by decide, by decide, hts _ (mC qg_L_21)⟩) rfl (by decide) (hts _ (mC qg_L_13)) hce hcv hcl ?_
      refine W.eq (g2 := F0 m 17 ls [.ref q9]) rfl ?_
      refine lv_astore (lv' := [(4, .ref q9), (0, .ref (aI 0)), (1, .int x1), (2, .int x2), (3, .ref bo)]) hx hb dL_bestRule_17 hl (by decide) rfl (fun ls hl => ?_)
      refine lv_iconst (v := 2) hx hb dL_bestRule_19 (by decide) ?_
      exact ei hx hb hr hlocks hK hP hD hS b.symm rfl dL_bestRule_20
  · have ho1 : vp_updL o 0 (r'.toInt64) = o' := by rw [if_pos hk0] at ho; exact ho
    have hc0 : cd = 0 := by rcases hk with ⟨a, b⟩ | ⟨a, b⟩ | ⟨a, b⟩ <;> first | exact b | omega
    refine lv_i2l hx hb dL_bestRule_8 rfl ?_
    refine s_la (ws1 := [(bo, .inl (cy 1, 1, .inr (.inl o')))] ++ ((W_All cy aI aT adP adS adB adO adR adA aP aS aB aO aR aA aH ah imT mdP' ndP' mdS' mdB' mdO' mdR' mdA' ndA' imP inP imS imB imO imR imA inA imH ihs) ++ [])) hx hb hK hP hD hS 0 rfl (show ¬ ((0 : Int32) < 0 ∨ 1 ≤ (0 : Int32).toNatClampNeg) by decide) (by rw [← ho1]; rfl) dL_bestRule_9 (fun H locs hP hD hS => ?_)
    refine lv_goto (tgt := 21) hx hb dL_bestRule_10 (by decide) ?_
    refine lv_iconst (v := 0) hx hb dL_bestRule_21 (by decide) ?_
    exact ei hx hb hr hlocks hK hP hD hS hc0.symm rfl dL_bestRule_22
abbrev rm_L_quote : Room := { frames := 9, cells := 3, slots := 18, locals := 145 }
set_option maxHeartbeats 40000000 in
set_option maxRecDepth 100000 in
theorem c_L_quote (l : Launch) (hst : l.stackTraces = false) (D : va_G) (cy : Nat → Nat) (aI aT adP adS adB adO adR adA aP aS aB aO aR aA aH : Nat → Nat) (ah : Nat → Nat → Nat → Nat) (bo : Nat) (x1 x2 x3 : Int32) (imT : Mem) (imdP : Mem) (indP : MemL) (imdS : Mem) (imdB : Mem) (imdO : Mem) (imdR : Mem) (imdA : Mem) (indA : MemL) (imP : Mem) (inP : MemL) (imS : Mem) (imB : Mem) (imO : Mem) (imR : Mem) (imA : Mem) (inA : MemL) (imH : Mem) (ihs : (Nat → PSt)) (o o' : Nat → Int64) (k' : Nat) (r' : Int32)  (cd : Int32) (hk : k' = 0 ∧ cd = 0 ∨ k' = 1 ∧ cd = 1 ∨ k' = 2 ∧ cd = 2) (ho : (if k' = 0 then vp_updL o 0 r'.toInt64 else o) = o') (hE : f_X8_quote x1 x2 x3 imT imdP indP imdS imdB imdO imdR imdA indA imP inP imS imB imO imR imA inA imH ihs = some (k', r')) : CH l yL_quote wsL_quote rm_L_quote D cy [.ref (aI 0), .int x1, .int x2, .int x3, .ref bo] ([(bo, .inl (cy 1, 1, .inr (.inl o)))] ++ ((W_All cy aI aT adP adS adB adO adR adA aP aS aB aO aR aA aH ah imT imdP indP imdS imdB imdO imdR imdA indA imP inP imS imB imO imR imA inA imH ihs) ++ [])) 3 18 (QI D cy cd ([(bo, .inl (cy 1, 1, .inr (.inl o')))] ++ ((W_All cy aI aT adP adS adB adO adR adA aP aS aB aO aR aA aH ah imT imdP indP imdS imdB imdO imdR imdA indA imP inP imS imB imO imR imA inA imH ihs) ++ []))) := by
  refine CH_of (cc := cL_quote) (maxL := 6) (ret := (some .int)) (hh := [(0, 12, 15, 21), (0, 12, 19, 13)]) (by decide) rfl (Nat.le_of_ble_eq_true rfl) (fun p e s m args below meth c A ls hx hb hr hml hlocks hown hts hA htab hK hN hX hP hD hS hl => ?_)
  have hown : s.vm.findClass RL = some m.cls := hown
  have hl : lv_has ls 6 [(0, .ref (aI 0)), (1, .int x1), (2, .int x2), (3, .int x3), (4, .ref bo)] := hl
  have hC : CallFix p m c cL_quote 6 s args wsL_quote RL := ⟨hx, hb, hml, hown, hts⟩
  refine lv_aload hx hb dL_quote_0 (lv_at hl 4 rfl) ?_
  refine lv_iconst (v := 0) hx hb dL_quote_2 (by decide) ?_
  refine lv_aload_n hx hb dL_quote_3 rfl (lv_at hl 0 rfl) ?_
  refine lv_iload_n hx hb dL_quote_4 rfl (lv_at hl 1 rfl) ?_
  refine lv_iload_n hx hb dL_quote_5 rfl (lv_at hl 2 rfl) ?_
  refine lv_iload_n hx hb dL_quote_6 rfl (lv_at hl 3 rfl) ?_
  refine kxi (X := [(bo, .inl (cy 1, 1, .inr (.inl o)))]) (Y := []) (ws1 := [(bo, .inl (cy 1, 1, .inr (.inl o)))] ++ ((W_All cy aI aT adP adS adB adO adR adA aP aS aB aO aR aA aH ah imT imdP indP imdS imdB imdO imdR imdA indA imP inP imS imB imO imR imA inA imH ihs) ++ [])) (xV (X := [(bo, .inl (cy 1, 1, .inr (.inl o)))]) (Y := []) (As := [.int x1, .int x2, .int x3]) (rest := [.int (0 : Int32), .ref bo]) hC (c_X8_quote l hst D cy aI aT adP adS adB adO adR adA aP aS aB aO aR aA aH ah x1 x2 x3 imT imdP indP imdS imdB imdO imdR imdA indA imP inP imS imB imO imR imA inA imH ihs k' r' hE) (cwV 3 hts gL_quote_X8_quote rfl rfl rfl cd_X8_quote ⟨Nat.le_of_ble_eq_true rfl, Nat.le_of_ble_eq_true rfl⟩) hK hN hP hD hS hA rfl 0 8 rfl rfl rfl hl.1 rfl (lv_room (Nat.le_of_ble_eq_true rfl)) dL_quote_7 ⟨Nat.le_of_ble_eq_true rfl, Nat.le_of_ble_eq_true rfl⟩) hP hD hS hA rfl (fst_All cy aI aT adP adS adB adO adR adA aP aS aB aO aR aA aH ah imT imdP indP imdS imdB imdO imdR imdA indA imP inP imS imB imO imR imA inA imH ihs imT imdP indP imdS imdB imdO imdR imdA indA imP inP imS imB imO imR imA inA imH ihs) rfl (fun hk0 H locs ce q9 hP hD hS hce hcv hcl => ?_) (fun hk0 H locs hP hD hS => ?_)
  · have ho1 : o = o' := by rw [if_neg hk0] at ho; exact ho
    rw [ho1] at hP hD
    rcases hk with ⟨a, b⟩ | ⟨a, b⟩ | ⟨a, b⟩
    · exact absurd a hk0
    · rw [a] at hcl
      refine kc (k := 1) (pre := []) (suf := [⟨0, 12, 19, 13⟩]) hown ⟨0, 12, 15, 21⟩ htab hX (by decide) (by decide) (fun z hz => absurd hz List.not_mem_nil) rfl (by decide) (hts _ (mC qg_L_21)) hce hcv hcl ?_
      refine W.eq (g2 := F0 m 15 ls [.ref q9]) rfl ?_
      refine lv_astore (lv' := [(5, .ref q9), (0, .ref (aI 0)), (1, .int x1), (2, .int x2), (3, .int x3), (4, .ref bo)]) hx hb dL_quote_15 hl (by decide) rfl (fun ls hl => ?_)
      refine lv_iconst (v := 1) hx hb dL_quote_17 (by decide) ?_
      exact ei hx hb hr hlocks hK hP hD hS b.symm rfl dL_quote_18
    · rw [a] at hcl
      refine kc (k := 2) (pre := [⟨0, 12, 15, 21⟩]) (suf := []) hown ⟨0, 12, 19, 13⟩ htab hX (by decide) (by decide) (fun z hz => by
        rcases List.mem_singleton.mp hz with rfl
        · exact ⟨by decide, 1, by decide, by decide, by decide, hts _ (mC qg_L_21)⟩) rfl (by decide) (hts _ (mC qg_L_13)) hce hcv hcl ?_
      refine W.eq (g2 := F0 m 19 ls [.ref q9]) rfl ?_
      refine lv_astore (lv' := [(5, .ref q9), (0, .ref (aI 0)), (1, .int x1), (2, .int x2), (3, .int x3), (4, .ref bo)]) hx hb dL_quote_19 hl (by decide) rfl (fun ls hl => ?_)
      refine lv_iconst (v := 2) hx hb dL_quote_21 (by decide) ?_
      exact ei hx hb hr hlocks hK hP hD hS b.symm rfl dL_quote_22
  · have ho1 : vp_updL o 0 (r'.toInt64) = o' := by rw [if_pos hk0] at ho; exact ho
    have hc0 : cd = 0 := by rcases hk with ⟨a, b⟩ | ⟨a, b⟩ | ⟨a, b⟩ <;> first | exact b | omega
    refine lv_i2l hx hb dL_quote_10 rfl ?_
    refine s_la (ws1 := [(bo, .inl (cy 1, 1, .inr (.inl o')))] ++ ((W_All cy aI aT adP adS adB adO adR adA aP aS aB aO aR aA aH ah imT imdP indP imdS imdB imdO imdR imdA indA imP inP imS imB imO imR imA inA imH ihs) ++ [])) hx hb hK hP hD hS 0 rfl (show ¬ ((0 : Int32) < 0 ∨ 1 ≤ (0 : Int32).toNatClampNeg) by decide) (by rw [← ho1]; rfl) dL_quote_11 (fun H locs hP hD hS => ?_)
    refine lv_goto (tgt := 23) hx hb dL_quote_12 (by decide) ?_
    refine lv_iconst (v := 0) hx hb dL_quote_23 (by decide) ?_
    exact ei hx hb hr hlocks hK hP hD hS hc0.symm rfl dL_quote_24
abbrev rm_L_append : Room := { frames := 9, cells := 2, slots := 12, locals := 143 }
set_option maxHeartbeats 40000000 in
set_option maxRecDepth 100000 in
theorem c_L_append (l : Launch) (hst : l.stackTraces = false) (D : va_G) (cy : Nat → Nat) (aI aT adP adS adB adO adR adA aP aS aB aO aR aA aH : Nat → Nat) (ah : Nat → Nat → Nat → Nat) (bo : Nat) (x1 : Int32) (imT : Mem) (imdP : Mem) (indP : MemL) (imdS : Mem) (imdB : Mem) (imdO : Mem) (imdR : Mem) (imdA : Mem) (indA : MemL) (imP : Mem) (inP : MemL) (imS : Mem) (imB : Mem) (imO : Mem) (imR : Mem) (imA : Mem) (inA : MemL) (imH : Mem) (ihs : (Nat → PSt)) (o o' : Nat → Int64) (k' : Nat) (r' : Int32) (mT' : Mem) (cd : Int32) (hk : k' = 0 ∧ cd = 0 ∨ k' = 2 ∧ cd = 1 ∨ k' = 3 ∧ cd = 2) (ho : (if k' = 0 then vp_updL o 0 r'.toInt64 else o) = o') (hE : f_X8_append x1 imT imdP indP imdS imdB imdO imdR imdA indA imP inP imS imB imO imR imA inA imH ihs = some (k', r', mT')) : CH l yL_append wsL_append rm_L_append D cy [.ref (aI 0), .int x1, .ref bo] ([(bo, .inl (cy 1, 1, .inr (.inl o)))] ++ ((W_All cy aI aT adP adS adB adO adR adA aP aS aB aO aR aA aH ah imT imdP indP imdS imdB imdO imdR imdA indA imP inP imS imB imO imR imA inA imH ihs) ++ [])) 2 12 (QI D cy cd ([(bo, .inl (cy 1, 1, .inr (.inl o')))] ++ ((W_All cy aI aT adP adS adB adO adR adA aP aS aB aO aR aA aH ah mT' imdP indP imdS imdB imdO imdR imdA indA imP inP imS imB imO imR imA inA imH ihs) ++ []))) := by
  refine CH_of (cc := cL_append) (maxL := 4) (ret := (some .int)) (hh := [(0, 9, 12, 13), (0, 9, 15, 15)]) (by decide) rfl (Nat.le_of_ble_eq_true rfl) (fun p e s m args below meth c A ls hx hb hr hml hlocks hown hts hA htab hK hN hX hP hD hS hl => ?_)
  have hown : s.vm.findClass RL = some m.cls := hown
  have hl : lv_has ls 4 [(0, .ref (aI 0)), (1, .int x1), (2, .ref bo)] := hl
  have hC : CallFix p m c cL_append 4 s args wsL_append RL := ⟨hx, hb, hml, hown, hts⟩
  refine lv_aload_n hx hb dL_append_0 rfl (lv_at hl 2 rfl) ?_
  refine lv_iconst (v := 0) hx hb dL_append_1 (by decide) ?_
  refine lv_aload_n hx hb dL_append_2 rfl (lv_at hl 0 rfl) ?_
  refine lv_iload_n hx hb dL_append_3 rfl (lv_at hl 1 rfl) ?_
  refine kxi (X := [(bo, .inl (cy 1, 1, .inr (.inl o)))]) (Y := []) (ws1 := [(bo, .inl (cy 1, 1, .inr (.inl o)))] ++ ((W_All cy aI aT adP adS adB adO adR adA aP aS aB aO aR aA aH ah mT' imdP indP imdS imdB imdO imdR imdA indA imP inP imS imB imO imR imA inA imH ihs) ++ [])) (xV (X := [(bo, .inl (cy 1, 1, .inr (.inl o)))]) (Y := []) (As := [.int x1]) (rest := [.int (0 : Int32), .ref bo]) hC (c_X8_append l hst D cy aI aT adP adS adB adO adR adA aP aS aB aO aR aA aH ah x1 imT imdP indP imdS imdB imdO imdR imdA indA imP inP imS imB imO imR imA inA imH ihs k' r' mT' hE) (cwV 1 hts gL_append_X8_append rfl rfl rfl cd_X8_append ⟨Nat.le_of_ble_eq_true rfl, Nat.le_of_ble_eq_true rfl⟩) hK hN hP hD hS hA rfl 0 8 rfl rfl rfl hl.1 rfl (lv_room (Nat.le_of_ble_eq_true rfl)) dL_append_4 ⟨Nat.le_of_ble_eq_true rfl, Nat.le_of_ble_eq_true rfl⟩) hP hD hS hA rfl (fst_All cy aI aT adP adS adB adO adR adA aP aS aB aO aR aA aH ah imT imdP indP imdS imdB imdO imdR imdA indA imP inP imS imB imO imR imA inA imH ihs mT' imdP indP imdS imdB imdO imdR imdA indA imP inP imS imB imO imR imA inA imH ihs) rfl (fun hk0 H locs ce q9 hP hD hS hce hcv hcl => ?_) (fun hk0 H locs hP hD hS => ?_)
  · have ho1 : o = o' := by rw [if_neg hk0] at ho; exact ho
    rw [ho1] at hP hD
    rcases hk with ⟨a, b⟩ | ⟨a, b⟩ | ⟨a, b⟩
    · exact absurd a hk0
    · rw [a] at hcl
      refine kc (k := 2) (pre := []) (suf := [⟨0, 9, 15, 15⟩]) hown ⟨0, 9, 12, 13⟩ htab hX (by decide) (by decide) (fun z hz => absurd hz List.not_mem_nil) rfl (by decide) (hts _ (mC qg_L_13)) hce hcv hcl ?_
      refine W.eq (g2 := F0 m 12 ls [.ref q9]) rfl ?_
      refine lv_astore_n (lv' := [(3, .ref q9), (0, .ref (aI 0)), (1, .int x1), (2, .ref bo)]) hx hb dL_append_12 rfl hl (by decide) rfl (fun ls hl => ?_)
      refine lv_iconst (v := 1) hx hb dL_append_13 (by decide) ?_
      exact ei hx hb hr hlocks hK hP hD hS b.symm rfl dL_append_14
    · rw [a] at hcl
      refine kc (k := 3) (pre := [⟨0, 9, 12, 13⟩]) (suf := []) hown ⟨0, 9, 15, 15⟩ htab hX (by decide) (by decide) (fun z hz => by
        rcases List.mem_singleton.mp hz with rfl
        · exact ⟨by decide, 2, by decide, by decide, by decide, hts _ (mC qg_L_13)⟩) rfl (by decide) (hts _ (mC qg_L_15)) hce hcv hcl ?_
      refine W.eq (g2 := F0 m 15 ls [.ref q9]) rfl ?_
      refine lv_astore_n (lv' := [(3, .ref q9), (0, .ref (aI 0)), (1, .int x1), (2, .ref bo)]) hx hb dL_append_15 rfl hl (by decide) rfl (fun ls hl => ?_)
      refine lv_iconst (v := 2) hx hb dL_append_16 (by decide) ?_
      exact ei hx hb hr hlocks hK hP hD hS b.symm rfl dL_append_17
  · have ho1 : vp_updL o 0 (r'.toInt64) = o' := by rw [if_pos hk0] at ho; exact ho
    have hc0 : cd = 0 := by rcases hk with ⟨a, b⟩ | ⟨a, b⟩ | ⟨a, b⟩ <;> first | exact b | omega
    refine lv_i2l hx hb dL_append_7 rfl ?_
    refine s_la (ws1 := [(bo, .inl (cy 1, 1, .inr (.inl o')))] ++ ((W_All cy aI aT adP adS adB adO adR adA aP aS aB aO aR aA aH ah mT' imdP indP imdS imdB imdO imdR imdA indA imP inP imS imB imO imR imA inA imH ihs) ++ [])) hx hb hK hP hD hS 0 rfl (show ¬ ((0 : Int32) < 0 ∨ 1 ≤ (0 : Int32).toNatClampNeg) by decide) (by rw [← ho1]; rfl) dL_append_8 (fun H locs hP hD hS => ?_)
    refine lv_goto (tgt := 18) hx hb dL_append_9 (by decide) ?_
    refine lv_iconst (v := 0) hx hb dL_append_18 (by decide) ?_
    exact ei hx hb hr hlocks hK hP hD hS hc0.symm rfl dL_append_19
abbrev rm_L_execute : Room := { frames := 9, cells := 1, slots := 6, locals := 188 }
set_option maxHeartbeats 40000000 in
set_option maxRecDepth 100000 in
theorem c_L_execute (l : Launch) (hst : l.stackTraces = false) (D : va_G) (cy : Nat → Nat) (aI aT adP adS adB adO adR adA aP aS aB aO aR aA aH : Nat → Nat) (ah : Nat → Nat → Nat → Nat) (bo : Nat) (imT : Mem) (imdP : Mem) (indP : MemL) (imdS : Mem) (imdB : Mem) (imdO : Mem) (imdR : Mem) (imdA : Mem) (indA : MemL) (imP : Mem) (inP : MemL) (imS : Mem) (imB : Mem) (imO : Mem) (imR : Mem) (imA : Mem) (inA : MemL) (imH : Mem) (ihs : (Nat → PSt)) (o o' : Nat → Int64) (k' : Nat) (r' : Int32) (mT' : Mem) (mP' : Mem) (nP' : MemL) (mS' : Mem) (mB' : Mem) (mO' : Mem) (mR' : Mem) (mA' : Mem) (nA' : MemL) (mH' : Mem) (hs' : (Nat → PSt)) (cd : Int32) (hk : k' = 0 ∧ cd = 0 ∨ k' = 3 ∧ cd = 1) (ho : (if k' = 0 then vp_updL o 0 r'.toInt64 else o) = o') (hE : f_X8_execute imT imdP indP imdS imdB imdO imdR imdA indA imP inP imS imB imO imR imA inA imH ihs = some (k', r', mT', mP', nP', mS', mB', mO', mR', mA', nA', mH', hs')) : CH l yL_execute wsL_execute rm_L_execute D cy [.ref (aI 0), .ref bo] ([(bo, .inl (cy 1, 1, .inr (.inl o)))] ++ ((W_All cy aI aT adP adS adB adO adR adA aP aS aB aO aR aA aH ah imT imdP indP imdS imdB imdO imdR imdA indA imP inP imS imB imO imR imA inA imH ihs) ++ [])) 1 6 (QI D cy cd ([(bo, .inl (cy 1, 1, .inr (.inl o')))] ++ ((W_All cy aI aT adP adS adB adO adR adA aP aS aB aO aR aA aH ah mT' imdP indP imdS imdB imdO imdR imdA indA mP' nP' mS' mB' mO' mR' mA' nA' mH' hs') ++ []))) := by
  refine CH_of (cc := cL_execute) (maxL := 3) (ret := (some .int)) (hh := [(0, 8, 11, 15)]) (by decide) rfl (Nat.le_of_ble_eq_true rfl) (fun p e s m args below meth c A ls hx hb hr hml hlocks hown hts hA htab hK hN hX hP hD hS hl => ?_)
  have hown : s.vm.findClass RL = some m.cls := hown
  have hl : lv_has ls 3 [(0, .ref (aI 0)), (1, .ref bo)] := hl
  have hC : CallFix p m c cL_execute 3 s args wsL_execute RL := ⟨hx, hb, hml, hown, hts⟩
  refine lv_aload_n hx hb dL_execute_0 rfl (lv_at hl 1 rfl) ?_
  refine lv_iconst (v := 0) hx hb dL_execute_1 (by decide) ?_
  refine lv_aload_n hx hb dL_execute_2 rfl (lv_at hl 0 rfl) ?_
  refine kxi (X := [(bo, .inl (cy 1, 1, .inr (.inl o)))]) (Y := []) (ws1 := [(bo, .inl (cy 1, 1, .inr (.inl o)))] ++ ((W_All cy aI aT adP adS adB adO adR adA aP aS aB aO aR aA aH ah mT' imdP indP imdS imdB imdO imdR imdA indA mP' nP' mS' mB' mO' mR' mA' nA' mH' hs') ++ [])) (xV (X := [(bo, .inl (cy 1, 1, .inr (.inl o)))]) (Y := []) (As := []) (rest := [.int (0 : Int32), .ref bo]) hC (c_X8_execute l hst D cy aI aT adP adS adB adO adR adA aP aS aB aO aR aA aH ah imT imdP indP imdS imdB imdO imdR imdA indA imP inP imS imB imO imR imA inA imH ihs k' r' mT' mP' nP' mS' mB' mO' mR' mA' nA' mH' hs' hE) (cwV 0 hts gL_execute_X8_execute rfl rfl rfl cd_X8_execute ⟨Nat.le_of_ble_eq_true rfl, Nat.le_of_ble_eq_true rfl⟩) hK hN hP hD hS hA rfl 0 8 rfl rfl rfl hl.1 rfl (lv_room (Nat.le_of_ble_eq_true rfl)) dL_execute_3 ⟨Nat.le_of_ble_eq_true rfl, Nat.le_of_ble_eq_true rfl⟩) hP hD hS hA rfl (fst_All cy aI aT adP adS adB adO adR adA aP aS aB aO aR aA aH ah imT imdP indP imdS imdB imdO imdR imdA indA imP inP imS imB imO imR imA inA imH ihs mT' imdP indP imdS imdB imdO imdR imdA indA mP' nP' mS' mB' mO' mR' mA' nA' mH' hs') rfl (fun hk0 H locs ce q9 hP hD hS hce hcv hcl => ?_) (fun hk0 H locs hP hD hS => ?_)
  · have ho1 : o = o' := by rw [if_neg hk0] at ho; exact ho
    rw [ho1] at hP hD
    rcases hk with ⟨a, b⟩ | ⟨a, b⟩
    · exact absurd a hk0
    · rw [a] at hcl
      refine kc (k := 3) (pre := []) (suf := []) hown ⟨0, 8, 11, 15⟩ htab hX (by decide) (by decide) (fun z hz => absurd hz List.not_mem_nil) rfl (by decide) (hts _ (mC qg_L_15)) hce hcv hcl ?_
      refine W.eq (g2 := F0 m 11 ls [.ref q9]) rfl ?_
      refine lv_astore_n (lv' := [(2, .ref q9), (0, .ref (aI 0)), (1, .ref bo)]) hx hb dL_execute_11 rfl hl (by decide) rfl (fun ls hl => ?_)
      refine lv_iconst (v := 1) hx hb dL_execute_12 (by decide) ?_
      exact ei hx hb hr hlocks hK hP hD hS b.symm rfl dL_execute_13
  · have ho1 : vp_updL o 0 (r'.toInt64) = o' := by rw [if_pos hk0] at ho; exact ho
    have hc0 : cd = 0 := by rcases hk with ⟨a, b⟩ | ⟨a, b⟩ <;> first | exact b | omega
    refine lv_i2l hx hb dL_execute_6 rfl ?_
    refine s_la (ws1 := [(bo, .inl (cy 1, 1, .inr (.inl o')))] ++ ((W_All cy aI aT adP adS adB adO adR adA aP aS aB aO aR aA aH ah mT' imdP indP imdS imdB imdO imdR imdA indA mP' nP' mS' mB' mO' mR' mA' nA' mH' hs') ++ [])) hx hb hK hP hD hS 0 rfl (show ¬ ((0 : Int32) < 0 ∨ 1 ≤ (0 : Int32).toNatClampNeg) by decide) (by rw [← ho1]; rfl) dL_execute_7 (fun H locs hP hD hS => ?_)
    refine lv_goto (tgt := 14) hx hb dL_execute_8 (by decide) ?_
    refine lv_iconst (v := 0) hx hb dL_execute_14 (by decide) ?_
    exact ei hx hb hr hlocks hK hP hD hS hc0.symm rfl dL_execute_15
abbrev rm_L_undo : Room := { frames := 9, cells := 1, slots := 6, locals := 142 }
set_option maxHeartbeats 40000000 in
set_option maxRecDepth 100000 in
theorem c_L_undo (l : Launch) (hst : l.stackTraces = false) (D : va_G) (cy : Nat → Nat) (aI aT adP adS adB adO adR adA aP aS aB aO aR aA aH : Nat → Nat) (ah : Nat → Nat → Nat → Nat) (bo : Nat) (imT : Mem) (imdP : Mem) (indP : MemL) (imdS : Mem) (imdB : Mem) (imdO : Mem) (imdR : Mem) (imdA : Mem) (indA : MemL) (imP : Mem) (inP : MemL) (imS : Mem) (imB : Mem) (imO : Mem) (imR : Mem) (imA : Mem) (inA : MemL) (imH : Mem) (ihs : (Nat → PSt)) (o o' : Nat → Int64) (k' : Nat) (r' : Int32) (mP' : Mem) (nP' : MemL) (mS' : Mem) (mB' : Mem) (mO' : Mem) (mR' : Mem) (mA' : Mem) (nA' : MemL) (mH' : Mem) (cd : Int32) (hk : k' = 0 ∧ cd = 0 ∨ k' = 3 ∧ cd = 1) (ho : (if k' = 0 then vp_updL o 0 r'.toInt64 else o) = o') (hE : f_X8_undo imT imdP indP imdS imdB imdO imdR imdA indA imP inP imS imB imO imR imA inA imH ihs = some (k', r', mP', nP', mS', mB', mO', mR', mA', nA', mH')) : CH l yL_undo wsL_undo rm_L_undo D cy [.ref (aI 0), .ref bo] ([(bo, .inl (cy 1, 1, .inr (.inl o)))] ++ ((W_All cy aI aT adP adS adB adO adR adA aP aS aB aO aR aA aH ah imT imdP indP imdS imdB imdO imdR imdA indA imP inP imS imB imO imR imA inA imH ihs) ++ [])) 1 6 (QI D cy cd ([(bo, .inl (cy 1, 1, .inr (.inl o')))] ++ ((W_All cy aI aT adP adS adB adO adR adA aP aS aB aO aR aA aH ah imT imdP indP imdS imdB imdO imdR imdA indA mP' nP' mS' mB' mO' mR' mA' nA' mH' ihs) ++ []))) := by
  refine CH_of (cc := cL_undo) (maxL := 3) (ret := (some .int)) (hh := [(0, 8, 11, 15)]) (by decide) rfl (Nat.le_of_ble_eq_true rfl) (fun p e s m args below meth c A ls hx hb hr hml hlocks hown hts hA htab hK hN hX hP hD hS hl => ?_)
  have hown : s.vm.findClass RL = some m.cls := hown
  have hl : lv_has ls 3 [(0, .ref (aI 0)), (1, .ref bo)] := hl
  have hC : CallFix p m c cL_undo 3 s args wsL_undo RL := ⟨hx, hb, hml, hown, hts⟩
  refine lv_aload_n hx hb dL_undo_0 rfl (lv_at hl 1 rfl) ?_
  refine lv_iconst (v := 0) hx hb dL_undo_1 (by decide) ?_
  refine lv_aload_n hx hb dL_undo_2 rfl (lv_at hl 0 rfl) ?_
  refine kxi (X := [(bo, .inl (cy 1, 1, .inr (.inl o)))]) (Y := []) (ws1 := [(bo, .inl (cy 1, 1, .inr (.inl o)))] ++ ((W_All cy aI aT adP adS adB adO adR adA aP aS aB aO aR aA aH ah imT imdP indP imdS imdB imdO imdR imdA indA mP' nP' mS' mB' mO' mR' mA' nA' mH' ihs) ++ [])) (xV (X := [(bo, .inl (cy 1, 1, .inr (.inl o)))]) (Y := []) (As := []) (rest := [.int (0 : Int32), .ref bo]) hC (c_X8_undo l hst D cy aI aT adP adS adB adO adR adA aP aS aB aO aR aA aH ah imT imdP indP imdS imdB imdO imdR imdA indA imP inP imS imB imO imR imA inA imH ihs k' r' mP' nP' mS' mB' mO' mR' mA' nA' mH' hE) (cwV 0 hts gL_undo_X8_undo rfl rfl rfl cd_X8_undo ⟨Nat.le_of_ble_eq_true rfl, Nat.le_of_ble_eq_true rfl⟩) hK hN hP hD hS hA rfl 0 8 rfl rfl rfl hl.1 rfl (lv_room (Nat.le_of_ble_eq_true rfl)) dL_undo_3 ⟨Nat.le_of_ble_eq_true rfl, Nat.le_of_ble_eq_true rfl⟩) hP hD hS hA rfl (fst_All cy aI aT adP adS adB adO adR adA aP aS aB aO aR aA aH ah imT imdP indP imdS imdB imdO imdR imdA indA imP inP imS imB imO imR imA inA imH ihs imT imdP indP imdS imdB imdO imdR imdA indA mP' nP' mS' mB' mO' mR' mA' nA' mH' ihs) rfl (fun hk0 H locs ce q9 hP hD hS hce hcv hcl => ?_) (fun hk0 H locs hP hD hS => ?_)
  · have ho1 : o = o' := by rw [if_neg hk0] at ho; exact ho
    rw [ho1] at hP hD
    rcases hk with ⟨a, b⟩ | ⟨a, b⟩
    · exact absurd a hk0
    · rw [a] at hcl
      refine kc (k := 3) (pre := []) (suf := []) hown ⟨0, 8, 11, 15⟩ htab hX (by decide) (by decide) (fun z hz => absurd hz List.not_mem_nil) rfl (by decide) (hts _ (mC qg_L_15)) hce hcv hcl ?_
      refine W.eq (g2 := F0 m 11 ls [.ref q9]) rfl ?_
      refine lv_astore_n (lv' := [(2, .ref q9), (0, .ref (aI 0)), (1, .ref bo)]) hx hb dL_undo_11 rfl hl (by decide) rfl (fun ls hl => ?_)
      refine lv_iconst (v := 1) hx hb dL_undo_12 (by decide) ?_
      exact ei hx hb hr hlocks hK hP hD hS b.symm rfl dL_undo_13
  · have ho1 : vp_updL o 0 (r'.toInt64) = o' := by rw [if_pos hk0] at ho; exact ho
    have hc0 : cd = 0 := by rcases hk with ⟨a, b⟩ | ⟨a, b⟩ <;> first | exact b | omega
    refine lv_i2l hx hb dL_undo_6 rfl ?_
    refine s_la (ws1 := [(bo, .inl (cy 1, 1, .inr (.inl o')))] ++ ((W_All cy aI aT adP adS adB adO adR adA aP aS aB aO aR aA aH ah imT imdP indP imdS imdB imdO imdR imdA indA mP' nP' mS' mB' mO' mR' mA' nA' mH' ihs) ++ [])) hx hb hK hP hD hS 0 rfl (show ¬ ((0 : Int32) < 0 ∨ 1 ≤ (0 : Int32).toNatClampNeg) by decide) (by rw [← ho1]; rfl) dL_undo_7 (fun H locs hP hD hS => ?_)
    refine lv_goto (tgt := 14) hx hb dL_undo_8 (by decide) ?_
    refine lv_iconst (v := 0) hx hb dL_undo_14 (by decide) ?_
    exact ei hx hb hr hlocks hK hP hD hS hc0.symm rfl dL_undo_15
