/-- L_addSilo -/
def f_L_addSilo (x1 x2 x3 : Int32) (imT : Mem) (imdP : Mem) (indP : MemL) (imdS : Mem) (imdB : Mem) (imdO : Mem) (imdR : Mem) (imdA : Mem) (indA : MemL) (imP : Mem) (inP : MemL) (imS : Mem) (imB : Mem) (imO : Mem) (imR : Mem) (imA : Mem) (inA : MemL) (imH : Mem) (ihs : (Nat → PSt)) : Option (Int32 × Mem × Mem × (Nat → PSt)) := bd5 (f_X8_addSilo x1 x2 x3 imT imdP indP imdS imdB imdO imdR imdA indA imP inP imS imB imO imR imA inA imH ihs) fun k0 r0 mS0 mH0 hs0 => (if k0 = 0 then some (r0, mS0, mH0, hs0) else if k0 = 2 then some ((-2000002 : Int32), mS0, mH0, hs0) else if k0 = 3 then some ((-2000003 : Int32), mS0, mH0, hs0) else none)
/-- L_setRule -/
def f_L_setRule (x1 x2 : Int32) (imT : Mem) (imdP : Mem) (indP : MemL) (imdS : Mem) (imdB : Mem) (imdO : Mem) (imdR : Mem) (imdA : Mem) (indA : MemL) (imP : Mem) (inP : MemL) (imS : Mem) (imB : Mem) (imO : Mem) (imR : Mem) (imA : Mem) (inA : MemL) (imH : Mem) (ihs : (Nat → PSt)) : Option (Int32 × Mem × Mem × (Nat → PSt)) := bd5 (f_X8_setRule x1 x2 imT imdP indP imdS imdB imdO imdR imdA indA imP inP imS imB imO imR imA inA imH ihs) fun k0 r0 mS0 mH0 hs0 => (if k0 = 0 then some (r0, mS0, mH0, hs0) else if k0 = 1 then some ((-2000001 : Int32), mS0, mH0, hs0) else if k0 = 2 then some ((-2000002 : Int32), mS0, mH0, hs0) else none)
/-- L_setStrength -/
def f_L_setStrength (x1 x2 : Int32) (imT : Mem) (imdP : Mem) (indP : MemL) (imdS : Mem) (imdB : Mem) (imdO : Mem) (imdR : Mem) (imdA : Mem) (indA : MemL) (imP : Mem) (inP : MemL) (imS : Mem) (imB : Mem) (imO : Mem) (imR : Mem) (imA : Mem) (inA : MemL) (imH : Mem) (ihs : (Nat → PSt)) : Option (Int32 × Mem × Mem × (Nat → PSt)) := bd5 (f_X8_setStrength x1 x2 imT imdP indP imdS imdB imdO imdR imdA indA imP inP imS imB imO imR imA inA imH ihs) fun k0 r0 mS0 mH0 hs0 => (if k0 = 0 then some (r0, mS0, mH0, hs0) else if k0 = 1 then some ((-2000001 : Int32), mS0, mH0, hs0) else if k0 = 2 then some ((-2000002 : Int32), mS0, mH0, hs0) else none)
/-- L_setTemperature -/
def f_L_setTemperature (x1 x2 : Int32) (imT : Mem) (imdP : Mem) (indP : MemL) (imdS : Mem) (imdB : Mem) (imdO : Mem) (imdR : Mem) (imdA : Mem) (indA : MemL) (imP : Mem) (inP : MemL) (imS : Mem) (imB : Mem) (imO : Mem) (imR : Mem) (imA : Mem) (inA : MemL) (imH : Mem) (ihs : (Nat → PSt)) : Option (Int32 × Mem × Mem × (Nat → PSt)) := bd5 (f_X8_setTemperature x1 x2 imT imdP indP imdS imdB imdO imdR imdA indA imP inP imS imB imO imR imA inA imH ihs) fun k0 r0 mP0 mH0 hs0 => (if k0 = 0 then some (r0, mP0, mH0, hs0) else if k0 = 1 then some ((-2000001 : Int32), mP0, mH0, hs0) else if k0 = 2 then some ((-2000002 : Int32), mP0, mH0, hs0) else none)
/-- L_set -/
def f_L_set (x1 x2 : Int32) (imT : Mem) (imdP : Mem) (indP : MemL) (imdS : Mem) (imdB : Mem) (imdO : Mem) (imdR : Mem) (imdA : Mem) (indA : MemL) (imP : Mem) (inP : MemL) (imS : Mem) (imB : Mem) (imO : Mem) (imR : Mem) (imA : Mem) (inA : MemL) (imH : Mem) (ihs : (Nat → PSt)) : Option (Int32 × Mem × Mem × (Nat → PSt)) := bd5 (f_X8_set x1 x2 imT imdP indP imdS imdB imdO imdR imdA indA imP inP imS imB imO imR imA inA imH ihs) fun k0 r0 mP0 mH0 hs0 => (if k0 = 0 then some (r0, mP0, mH0, hs0) else if k0 = 1 then some ((-2000001 : Int32), mP0, mH0, hs0) else if k0 = 2 then some ((-2000002 : Int32), mP0, mH0, hs0) else none)
/-- L_move -/
def f_L_move (x1 x2 : Int32) (imT : Mem) (imdP : Mem) (indP : MemL) (imdS : Mem) (imdB : Mem) (imdO : Mem) (imdR : Mem) (imdA : Mem) (indA : MemL) (imP : Mem) (inP : MemL) (imS : Mem) (imB : Mem) (imO : Mem) (imR : Mem) (imA : Mem) (inA : MemL) (imH : Mem) (ihs : (Nat → PSt)) : Option (Int32 × Mem × Mem × (Nat → PSt)) := bd5 (f_X8_move x1 x2 imT imdP indP imdS imdB imdO imdR imdA indA imP inP imS imB imO imR imA inA imH ihs) fun k0 r0 mS0 mH0 hs0 => (if k0 = 0 then some (r0, mS0, mH0, hs0) else if k0 = 1 then some ((-2000001 : Int32), mS0, mH0, hs0) else if k0 = 2 then some ((-2000002 : Int32), mS0, mH0, hs0) else if k0 = 3 then some ((-2000003 : Int32), mS0, mH0, hs0) else none)
/-- L_pass -/
def f_L_pass (x1 : Int32) (imT : Mem) (imdP : Mem) (indP : MemL) (imdS : Mem) (imdB : Mem) (imdO : Mem) (imdR : Mem) (imdA : Mem) (indA : MemL) (imP : Mem) (inP : MemL) (imS : Mem) (imB : Mem) (imO : Mem) (imR : Mem) (imA : Mem) (inA : MemL) (imH : Mem) (ihs : (Nat → PSt)) : Option (Int32 × Mem × MemL × Mem × Mem × Mem × Mem × Mem × MemL × Mem × (Nat → PSt)) := bd12 (f_X8_pass x1 imT imdP indP imdS imdB imdO imdR imdA indA imP inP imS imB imO imR imA inA imH ihs) fun k0 r0 mP0 nP0 mS0 mB0 mO0 mR0 mA0 nA0 mH0 hs0 => (if k0 = 0 then some (r0, mP0, nP0, mS0, mB0, mO0, mR0, mA0, nA0, mH0, hs0) else if k0 = 2 then some ((-2000002 : Int32), mP0, nP0, mS0, mB0, mO0, mR0, mA0, nA0, mH0, hs0) else if k0 = 3 then some ((-2000003 : Int32), mP0, nP0, mS0, mB0, mO0, mR0, mA0, nA0, mH0, hs0) else none)
/-- L_addBoat -/
def f_L_addBoat (x1 : Int32) (imT : Mem) (imdP : Mem) (indP : MemL) (imdS : Mem) (imdB : Mem) (imdO : Mem) (imdR : Mem) (imdA : Mem) (indA : MemL) (imP : Mem) (inP : MemL) (imS : Mem) (imB : Mem) (imO : Mem) (imR : Mem) (imA : Mem) (inA : MemL) (imH : Mem) (ihs : (Nat → PSt)) : Option (Int32 × Mem × Mem × (Nat → PSt)) := bd5 (f_X8_addBoat x1 imT imdP indP imdS imdB imdO imdR imdA indA imP inP imS imB imO imR imA inA imH ihs) fun k0 r0 mB0 mH0 hs0 => (if k0 = 0 then some (r0, mB0, mH0, hs0) else if k0 = 2 then some ((-2000002 : Int32), mB0, mH0, hs0) else if k0 = 3 then some ((-2000003 : Int32), mB0, mH0, hs0) else none)
abbrev rm_L_addSilo : Room := { frames := 9, cells := 4, slots := 24, locals := 145 }
set_option maxHeartbeats 40000000 in
set_option maxRecDepth 100000 in
theorem c_L_addSilo (l : Launch) (hst : l.stackTraces = false) (D : va_G) (cy : Nat → Nat) (aI aT adP adS adB adO adR adA aP aS aB aO aR aA aH : Nat → Nat) (ah : Nat → Nat → Nat → Nat) (x1 x2 x3 : Int32) (imT : Mem) (imdP : Mem) (indP : MemL) (imdS : Mem) (imdB : Mem) (imdO : Mem) (imdR : Mem) (imdA : Mem) (indA : MemL) (imP : Mem) (inP : MemL) (imS : Mem) (imB : Mem) (imO : Mem) (imR : Mem) (imA : Mem) (inA : MemL) (imH : Mem) (ihs : (Nat → PSt)) (r' : Int32) (mS' : Mem) (mH' : Mem) (hs' : (Nat → PSt)) (hE : f_L_addSilo x1 x2 x3 imT imdP indP imdS imdB imdO imdR imdA indA imP inP imS imB imO imR imA inA imH ihs = some (r', mS', mH', hs')) : CH l yL_addSilo wsL_addSilo rm_L_addSilo D cy [.ref (aI 0), .int x1, .int x2, .int x3] (W_All cy aI aT adP adS adB adO adR adA aP aS aB aO aR aA aH ah imT imdP indP imdS imdB imdO imdR imdA indA imP inP imS imB imO imR imA inA imH ihs) 4 24 (QI D cy r' (W_All cy aI aT adP adS adB adO adR adA aP aS aB aO aR aA aH ah imT imdP indP imdS imdB imdO imdR imdA indA imP inP mS' imB imO imR imA inA mH' hs')) := by
  refine CH_of (cc := cL_addSilo) (maxL := 5) (ret := (some .int)) (hh := [(0, 7, 8, 15), (0, 7, 13, 18)]) (by decide) rfl (Nat.le_of_ble_eq_true rfl) (fun p e s m args below meth c A ls hx hb hr hml hlocks hown hts hA htab hK hN hX hP hD hS hl => ?_)
  have hown : s.vm.findClass RL = some m.cls := hown
  have hl : lv_has ls 5 [(0, .ref (aI 0)), (1, .int x1), (2, .int x2), (3, .int x3)] := hl
  have hC : CallFix p m c cL_addSilo 5 s args wsL_addSilo RL := ⟨hx, hb, hml, hown, hts⟩
  unfold f_L_addSilo at hE
  obtain ⟨k0, r0, mS0, mH0, hs0, hc, hE⟩ := bd5_el hE
  refine lv_aload_n hx hb dL_addSilo_0 rfl (lv_at hl 0 rfl) ?_
  refine lv_iload_n hx hb dL_addSilo_1 rfl (lv_at hl 1 rfl) ?_
  refine lv_iload_n hx hb dL_addSilo_2 rfl (lv_at hl 2 rfl) ?_
  refine lv_iload_n hx hb dL_addSilo_3 rfl (lv_at hl 3 rfl) ?_
  refine kxi (X := []) (Y := []) (ws1 := (W_All cy aI aT adP adS adB adO adR adA aP aS aB aO aR aA aH ah imT imdP indP imdS imdB imdO imdR imdA indA imP inP mS0 imB imO imR imA inA mH0 hs0)) (xV (X := []) (Y := []) (As := [.int x1, .int x2, .int x3]) (rest := []) hC (c_X8_addSilo l hst D cy aI aT adP adS adB adO adR adA aP aS aB aO aR aA aH ah x1 x2 x3 imT imdP indP imdS imdB imdO imdR imdA indA imP inP imS imB imO imR imA inA imH ihs k0 r0 mS0 mH0 hs0 hc) (cwV 3 hts gL_addSilo_X8_addSilo rfl rfl rfl cd_X8_addSilo ⟨Nat.le_of_ble_eq_true rfl, Nat.le_of_ble_eq_true rfl⟩) hK hN hP hD hS hA rfl 0 8 rfl rfl rfl hl.1 rfl (lv_room (Nat.le_of_ble_eq_true rfl)) dL_addSilo_4 ⟨Nat.le_of_ble_eq_true rfl, Nat.le_of_ble_eq_true rfl⟩) hP hD hS hA rfl (fst_All cy aI aT adP adS adB adO adR adA aP aS aB aO aR aA aH ah imT imdP indP imdS imdB imdO imdR imdA indA imP inP imS imB imO imR imA inA imH ihs imT imdP indP imdS imdB imdO imdR imdA indA imP inP mS0 imB imO imR imA inA mH0 hs0) rfl (fun hk0 H locs ce q9 hP hD hS hce hcv hcl => ?_) (fun hk0 H locs hP hD hS => ?_)
  · replace hE := it_f hE hk0
    by_cases c2 : k0 = 2
    · replace hE := it_t hE c2
      have hE := Option.some.inj hE
      obtain ⟨qq0, hE⟩ := Prod.mk.inj hE
      obtain ⟨qq1, hE⟩ := Prod.mk.inj hE
      obtain ⟨qq2, qq3⟩ := Prod.mk.inj hE
      rw [c2] at hcl
      refine kc (k := 2) (pre := []) (suf := [⟨0, 7, 13, 18⟩]) hown ⟨0, 7, 8, 15⟩ htab hX (by decide) (by decide) (fun z hz => absurd hz List.not_mem_nil) rfl (by decide) (hts _ (mC qg_L_15)) hce hcv hcl ?_
      refine W.eq (g2 := F0 m 8 ls [.ref q9]) rfl ?_
      refine lv_astore (lv' := [(4, .ref q9), (0, .ref (aI 0)), (1, .int x1), (2, .int x2), (3, .int x3)]) hx hb dL_addSilo_8 hl (by decide) rfl (fun ls hl => ?_)
      have kq : (Cond.constant RL 17 (-2000002)).before args s = true := hts _ (mC qk_L_17)
      refine lv_ldc hx hb hown kq dL_addSilo_10 ?_
      exact ei hx hb hr hlocks hK hP hD hS qq0 (by rw [qq1, qq2, qq3]) dL_addSilo_12
    · replace hE := it_f hE c2
      by_cases c3 : k0 = 3
      · replace hE := it_t hE c3
        have hE := Option.some.inj hE
        obtain ⟨qq0, hE⟩ := Prod.mk.inj hE
        obtain ⟨qq1, hE⟩ := Prod.mk.inj hE
        obtain ⟨qq2, qq3⟩ := Prod.mk.inj hE
        rw [c3] at hcl
        refine kc (k := 3) (pre := [⟨0, 7, 8, 15⟩]) (suf := []) hown ⟨0, 7, 13, 18⟩ htab hX (by decide) (by decide) (fun z hz => by
        rcases List.mem_singleton.mp hz with rfl
        · exact ⟨by decide, 2, by decide, by decide, by decide, hts _ (mC qg_L_15)⟩) rfl (by decide) (hts _ (mC qg_L_18)) hce hcv hcl ?_
        refine W.eq (g2 := F0 m 13 ls [.ref q9]) rfl ?_
        refine lv_astore (lv' := [(4, .ref q9), (0, .ref (aI 0)), (1, .int x1), (2, .int x2), (3, .int x3)]) hx hb dL_addSilo_13 hl (by decide) rfl (fun ls hl => ?_)
        have kq : (Cond.constant RL 20 (-2000003)).before args s = true := hts _ (mC qk_L_20)
        refine lv_ldc hx hb hown kq dL_addSilo_15 ?_
        exact ei hx hb hr hlocks hK hP hD hS qq0 (by rw [qq1, qq2, qq3]) dL_addSilo_17
      · replace hE := it_f hE c3
        exact absurd hE (fun h9 => nomatch h9)
  · replace hE := it_t hE hk0
    have hE := Option.some.inj hE
    obtain ⟨qq0, hE⟩ := Prod.mk.inj hE
    obtain ⟨qq1, hE⟩ := Prod.mk.inj hE
    obtain ⟨qq2, qq3⟩ := Prod.mk.inj hE
    exact ei hx hb hr hlocks hK hP hD hS qq0 (by rw [qq1, qq2, qq3]) dL_addSilo_7
abbrev rm_L_setRule : Room := { frames := 9, cells := 2, slots := 12, locals := 144 }
set_option maxHeartbeats 40000000 in
set_option maxRecDepth 100000 in
theorem c_L_setRule (l : Launch) (hst : l.stackTraces = false) (D : va_G) (cy : Nat → Nat) (aI aT adP adS adB adO adR adA aP aS aB aO aR aA aH : Nat → Nat) (ah : Nat → Nat → Nat → Nat) (x1 x2 : Int32) (imT : Mem) (imdP : Mem) (indP : MemL) (imdS : Mem) (imdB : Mem) (imdO : Mem) (imdR : Mem) (imdA : Mem) (indA : MemL) (imP : Mem) (inP : MemL) (imS : Mem) (imB : Mem) (imO : Mem) (imR : Mem) (imA : Mem) (inA : MemL) (imH : Mem) (ihs : (Nat → PSt)) (r' : Int32) (mS' : Mem) (mH' : Mem) (hs' : (Nat → PSt)) (hE : f_L_setRule x1 x2 imT imdP indP imdS imdB imdO imdR imdA indA imP inP imS imB imO imR imA inA imH ihs = some (r', mS', mH', hs')) : CH l yL_setRule wsL_setRule rm_L_setRule D cy [.ref (aI 0), .int x1, .int x2] (W_All cy aI aT adP adS adB adO adR adA aP aS aB aO aR aA aH ah imT imdP indP imdS imdB imdO imdR imdA indA imP inP imS imB imO imR imA inA imH ihs) 2 12 (QI D cy r' (W_All cy aI aT adP adS adB adO adR adA aP aS aB aO aR aA aH ah imT imdP indP imdS imdB imdO imdR imdA indA imP inP mS' imB imO imR imA inA mH' hs')) := by
  refine CH_of (cc := cL_setRule) (maxL := 4) (ret := (some .int)) (hh := [(0, 6, 7, 25), (0, 6, 11, 15)]) (by decide) rfl (Nat.le_of_ble_eq_true rfl) (fun p e s m args below meth c A ls hx hb hr hml hlocks hown hts hA htab hK hN hX hP hD hS hl => ?_)
  have hown : s.vm.findClass RL = some m.cls := hown
  have hl : lv_has ls 4 [(0, .ref (aI 0)), (1, .int x1), (2, .int x2)] := hl
  have hC : CallFix p m c cL_setRule 4 s args wsL_setRule RL := ⟨hx, hb, hml, hown, hts⟩
  unfold f_L_setRule at hE
  obtain ⟨k0, r0, mS0, mH0, hs0, hc, hE⟩ := bd5_el hE
  refine lv_aload_n hx hb dL_setRule_0 rfl (lv_at hl 0 rfl) ?_
  refine lv_iload_n hx hb dL_setRule_1 rfl (lv_at hl 1 rfl) ?_
  refine lv_iload_n hx hb dL_setRule_2 rfl (lv_at hl 2 rfl) ?_
  refine kxi (X := []) (Y := []) (ws1 := (W_All cy aI aT adP adS adB adO adR adA aP aS aB aO aR aA aH ah imT imdP indP imdS imdB imdO imdR imdA indA imP inP mS0 imB imO imR imA inA mH0 hs0)) (xV (X := []) (Y := []) (As := [.int x1, .int x2]) (rest := []) hC (c_X8_setRule l hst D cy aI aT adP adS adB adO adR adA aP aS aB aO aR aA aH ah x1 x2 imT imdP indP imdS imdB imdO imdR imdA indA imP inP imS imB imO imR imA inA imH ihs k0 r0 mS0 mH0 hs0 hc) (cwV 2 hts gL_setRule_X8_setRule rfl rfl rfl cd_X8_setRule ⟨Nat.le_of_ble_eq_true rfl, Nat.le_of_ble_eq_true rfl⟩) hK hN hP hD hS hA rfl 0 8 rfl rfl rfl hl.1 rfl (lv_room (Nat.le_of_ble_eq_true rfl)) dL_setRule_3 ⟨Nat.le_of_ble_eq_true rfl, Nat.le_of_ble_eq_true rfl⟩) hP hD hS hA rfl (fst_All cy aI aT adP adS adB adO adR adA aP aS aB aO aR aA aH ah imT imdP indP imdS imdB imdO imdR imdA indA imP inP imS imB imO imR imA inA imH ihs imT imdP indP imdS imdB imdO imdR imdA indA imP inP mS0 imB imO imR imA inA mH0 hs0) rfl (fun hk0 H locs ce q9 hP hD hS hce hcv hcl => ?_) (fun hk0 H locs hP hD hS => ?_)
  · replace hE := it_f hE hk0
    by_cases c1 : k0 = 1
    · replace hE := it_t hE c1
      have hE := Option.some.inj hE
      obtain ⟨qq0, hE⟩ := Prod.mk.inj hE
      obtain ⟨qq1, hE⟩ := Prod.mk.inj hE
      obtain ⟨qq2, qq3⟩ := Prod.mk.inj hE
      rw [c1] at hcl
      refine kc (k := 1) (pre := []) (suf := [⟨0, 6, 11, 15⟩]) hown ⟨0, 6, 7, 25⟩ htab hX (by decide) (by decide) (fun z hz => absurd hz List.not_mem_nil) rfl (by decide) (hts _ (mC qg_L_25)) hce hcv hcl ?_
      refine W.eq (g2 := F0 m 7 ls [.ref q9]) rfl ?_
      refine lv_astore_n (lv' := [(3, .ref q9), (0, .ref (aI 0)), (1, .int x1), (2, .int x2)]) hx hb dL_setRule_7 rfl hl (by decide) rfl (fun ls hl => ?_)
      have kq : (Cond.constant RL 27 (-2000001)).before args s = true := hts _ (mC qk_L_27)
      refine lv_ldc hx hb hown kq dL_setRule_8 ?_
      exact ei hx hb hr hlocks hK hP hD hS qq0 (by rw [qq1, qq2, qq3]) dL_setRule_10
    · replace hE := it_f hE c1
      by_cases c2 : k0 = 2
      · replace hE := it_t hE c2
        have hE := Option.some.inj hE
        obtain ⟨qq0, hE⟩ := Prod.mk.inj hE
        obtain ⟨qq1, hE⟩ := Prod.mk.inj hE
        obtain ⟨qq2, qq3⟩ := Prod.mk.inj hE
        rw [c2] at hcl
        refine kc (k := 2) (pre := [⟨0, 6, 7, 25⟩]) (suf := []) hown ⟨0, 6, 11, 15⟩ htab hX (by decide) (by decide) (fun z hz => by
        rcases List.mem_singleton.mp hz with rfl
        · exact ⟨by decide, 1, by decide, by decide, by decide, hts _ (mC qg_L_25)⟩) rfl (by decide) (hts _ (mC qg_L_15)) hce hcv hcl ?_
        refine W.eq (g2 := F0 m 11 ls [.ref q9]) rfl ?_
        refine lv_astore_n (lv' := [(3, .ref q9), (0, .ref (aI 0)), (1, .int x1), (2, .int x2)]) hx hb dL_setRule_11 rfl hl (by decide) rfl (fun ls hl => ?_)
        have kq : (Cond.constant RL 17 (-2000002)).before args s = true := hts _ (mC qk_L_17)
        refine lv_ldc hx hb hown kq dL_setRule_12 ?_
        exact ei hx hb hr hlocks hK hP hD hS qq0 (by rw [qq1, qq2, qq3]) dL_setRule_14
      · replace hE := it_f hE c2
        exact absurd hE (fun h9 => nomatch h9)
  · replace hE := it_t hE hk0
    have hE := Option.some.inj hE
    obtain ⟨qq0, hE⟩ := Prod.mk.inj hE
    obtain ⟨qq1, hE⟩ := Prod.mk.inj hE
    obtain ⟨qq2, qq3⟩ := Prod.mk.inj hE
    exact ei hx hb hr hlocks hK hP hD hS qq0 (by rw [qq1, qq2, qq3]) dL_setRule_6
abbrev rm_L_setStrength : Room := { frames := 9, cells := 2, slots := 12, locals := 144 }
set_option maxHeartbeats 40000000 in
set_option maxRecDepth 100000 in
theorem c_L_setStrength (l : Launch) (hst : l.stackTraces = false) (D : va_G) (cy : Nat → Nat) (aI aT adP adS adB adO adR adA aP aS aB aO aR aA aH : Nat → Nat) (ah : Nat → Nat → Nat → Nat) (x1 x2 : Int32) (imT : Mem) (imdP : Mem) (indP : MemL) (imdS : Mem) (imdB : Mem) (imdO : Mem) (imdR : Mem) (imdA : Mem) (indA : MemL) (imP : Mem) (inP : MemL) (imS : Mem) (imB : Mem) (imO : Mem) (imR : Mem) (imA : Mem) (inA : MemL) (imH : Mem) (ihs : (Nat → PSt)) (r' : Int32) (mS' : Mem) (mH' : Mem) (hs' : (Nat → PSt)) (hE : f_L_setStrength x1 x2 imT imdP indP imdS imdB imdO imdR imdA indA imP inP imS imB imO imR imA inA imH ihs = some (r', mS', mH', hs')) : CH l yL_setStrength wsL_setStrength rm_L_setStrength D cy [.ref (aI 0), .int x1, .int x2] (W_All cy aI aT adP adS adB adO adR adA aP aS aB aO aR aA aH ah imT imdP indP imdS imdB imdO imdR imdA indA imP inP imS imB imO imR imA inA imH ihs) 2 12 (QI D cy r' (W_All cy aI aT adP adS adB adO adR adA aP aS aB aO aR aA aH ah imT imdP indP imdS imdB imdO imdR imdA indA imP inP mS' imB imO imR imA inA mH' hs')) := by
  refine CH_of (cc := cL_setStrength) (maxL := 4) (ret := (some .int)) (hh := [(0, 6, 7, 25), (0, 6, 11, 15)]) (by decide) rfl (Nat.le_of_ble_eq_true rfl) (fun p e s m args below meth c A ls hx hb hr hml hlocks hown hts hA htab hK hN hX hP hD hS hl => ?_)
  have hown : s.vm.findClass RL = some m.cls := hown
  have hl : lv_has ls 4 [(0, .ref (aI 0)), (1, .int x1), (2, .int x2)] := hl
  have hC : CallFix p m c cL_setStrength 4 s args wsL_setStrength RL := ⟨hx, hb, hml, hown, hts⟩
  unfold f_L_setStrength at hE
  obtain ⟨k0, r0, mS0, mH0, hs0, hc, hE⟩ := bd5_el hE
  refine lv_aload_n hx hb dL_setStrength_0 rfl (lv_at hl 0 rfl) ?_
  refine lv_iload_n hx hb dL_setStrength_1 rfl (lv_at hl 1 rfl) ?_
  refine lv_iload_n hx hb dL_setStrength_2 rfl (lv_at hl 2 rfl) ?_
  refine kxi (X := []) (Y := []) (ws1 := (W_All cy aI aT adP adS adB adO adR adA aP aS aB aO aR aA aH ah imT imdP indP imdS imdB imdO imdR imdA indA imP inP mS0 imB imO imR imA inA mH0 hs0)) (xV (X := []) (Y := []) (As := [.int x1, .int x2]) (rest := []) hC (c_X8_setStrength l hst D cy aI aT adP adS adB adO adR adA aP aS aB aO aR aA aH ah x1 x2 imT imdP indP imdS imdB imdO imdR imdA indA imP inP imS imB imO imR imA inA imH ihs k0 r0 mS0 mH0 hs0 hc) (cwV 2 hts gL_setStrength_X8_setStrength rfl rfl rfl cd_X8_setStrength ⟨Nat.le_of_ble_eq_true rfl, Nat.le_of_ble_eq_true rfl⟩) hK hN hP hD hS hA rfl 0 8 rfl rfl rfl hl.1 rfl (lv_room (Nat.le_of_ble_eq_true rfl)) dL_setStrength_3 ⟨Nat.le_of_ble_eq_true rfl, Nat.le_of_ble_eq_true rfl⟩) hP hD hS hA rfl (fst_All cy aI aT adP adS adB adO adR adA aP aS aB aO aR aA aH ah imT imdP indP imdS imdB imdO imdR imdA indA imP inP imS imB imO imR imA inA imH ihs imT imdP indP imdS imdB imdO imdR imdA indA imP inP mS0 imB imO imR imA inA mH0 hs0) rfl (fun hk0 H locs ce q9 hP hD hS hce hcv hcl => ?_) (fun hk0 H locs hP hD hS => ?_)
  · replace hE := it_f hE hk0
    by_cases c1 : k0 = 1
    · replace hE := it_t hE c1
      have hE := Option.some.inj hE
      obtain ⟨qq0, hE⟩ := Prod.mk.inj hE
      obtain ⟨qq1, hE⟩ := Prod.mk.inj hE
      obtain ⟨qq2, qq3⟩ := Prod.mk.inj hE
      rw [c1] at hcl
      refine kc (k := 1) (pre := []) (suf := [⟨0, 6, 11, 15⟩]) hown ⟨0, 6, 7, 25⟩ htab hX (by decide) (by decide) (fun z hz => absurd hz List.not_mem_nil) rfl (by decide) (hts _ (mC qg_L_25)) hce hcv hcl ?_
      refine W.eq (g2 := F0 m 7 ls [.ref q9]) rfl ?_
      refine lv_astore_n (lv' := [(3, .ref q9), (0, .ref (aI 0)), (1, .int x1), (2, .int x2)]) hx hb dL_setStrength_7 rfl hl (by decide) rfl (fun ls hl => ?_)
      have kq : (Cond.constant RL 27 (-2000001)).before args s = true := hts _ (mC qk_L_27)
      refine lv_ldc hx hb hown kq dL_setStrength_8 ?_
      exact ei hx hb hr hlocks hK hP hD hS qq0 (by rw [qq1, qq2, qq3]) dL_setStrength_10
    · replace hE := it_f hE c1
      by_cases c2 : k0 = 2
      · replace hE := it_t hE c2
        have hE := Option.some.inj hE
        obtain ⟨qq0, hE⟩ := Prod.mk.inj hE
        obtain ⟨qq1, hE⟩ := Prod.mk.inj hE
        obtain ⟨qq2, qq3⟩ := Prod.mk.inj hE
        rw [c2] at hcl
        refine kc (k := 2) (pre := [⟨0, 6, 7, 25⟩]) (suf := []) hown ⟨0, 6, 11, 15⟩ htab hX (by decide) (by decide) (fun z hz => by
        rcases List.mem_singleton.mp hz with rfl
        · exact ⟨by decide, 1, by decide, by decide, by decide, hts _ (mC qg_L_25)⟩) rfl (by decide) (hts _ (mC qg_L_15)) hce hcv hcl ?_
        refine W.eq (g2 := F0 m 11 ls [.ref q9]) rfl ?_
        refine lv_astore_n (lv' := [(3, .ref q9), (0, .ref (aI 0)), (1, .int x1), (2, .int x2)]) hx hb dL_setStrength_11 rfl hl (by decide) rfl (fun ls hl => ?_)
        have kq : (Cond.constant RL 17 (-2000002)).before args s = true := hts _ (mC qk_L_17)
        refine lv_ldc hx hb hown kq dL_setStrength_12 ?_
        exact ei hx hb hr hlocks hK hP hD hS qq0 (by rw [qq1, qq2, qq3]) dL_setStrength_14
      · replace hE := it_f hE c2
        exact absurd hE (fun h9 => nomatch h9)
  · replace hE := it_t hE hk0
    have hE := Option.some.inj hE
    obtain ⟨qq0, hE⟩ := Prod.mk.inj hE
    obtain ⟨qq1, hE⟩ := Prod.mk.inj hE
    obtain ⟨qq2, qq3⟩ := Prod.mk.inj hE
    exact ei hx hb hr hlocks hK hP hD hS qq0 (by rw [qq1, qq2, qq3]) dL_setStrength_6
abbrev rm_L_setTemperature : Room := { frames := 9, cells := 2, slots := 12, locals := 144 }
set_option maxHeartbeats 40000000 in
set_option maxRecDepth 100000 in
theorem c_L_setTemperature (l : Launch) (hst : l.stackTraces = false) (D : va_G) (cy : Nat → Nat) (aI aT adP adS adB adO adR adA aP aS aB aO aR aA aH : Nat → Nat) (ah : Nat → Nat → Nat → Nat) (x1 x2 : Int32) (imT : Mem) (imdP : Mem) (indP : MemL) (imdS : Mem) (imdB : Mem) (imdO : Mem) (imdR : Mem) (imdA : Mem) (indA : MemL) (imP : Mem) (inP : MemL) (imS : Mem) (imB : Mem) (imO : Mem) (imR : Mem) (imA : Mem) (inA : MemL) (imH : Mem) (ihs : (Nat → PSt)) (r' : Int32) (mP' : Mem) (mH' : Mem) (hs' : (Nat → PSt)) (hE : f_L_setTemperature x1 x2 imT imdP indP imdS imdB imdO imdR imdA indA imP inP imS imB imO imR imA inA imH ihs = some (r', mP', mH', hs')) : CH l yL_setTemperature wsL_setTemperature rm_L_setTemperature D cy [.ref (aI 0), .int x1, .int x2] (W_All cy aI aT adP adS adB adO adR adA aP aS aB aO aR aA aH ah imT imdP indP imdS imdB imdO imdR imdA indA imP inP imS imB imO imR imA inA imH ihs) 2 12 (QI D cy r' (W_All cy aI aT adP adS adB adO adR adA aP aS aB aO aR aA aH ah imT imdP indP imdS imdB imdO imdR imdA indA mP' inP imS imB imO imR imA inA mH' hs')) := by
  refine CH_of (cc := cL_setTemperature) (maxL := 4) (ret := (some .int)) (hh := [(0, 6, 7, 25), (0, 6, 11, 15)]) (by decide) rfl (Nat.le_of_ble_eq_true rfl) (fun p e s m args below meth c A ls hx hb hr hml hlocks hown hts hA htab hK hN hX hP hD hS hl => ?_)
  have hown : s.vm.findClass RL = some m.cls := hown
  have hl : lv_has ls 4 [(0, .ref (aI 0)), (1, .int x1), (2, .int x2)] := hl
  have hC : CallFix p m c cL_setTemperature 4 s args wsL_setTemperature RL := ⟨hx, hb, hml, hown, hts⟩
  unfold f_L_setTemperature at hE
  obtain ⟨k0, r0, mP0, mH0, hs0, hc, hE⟩ := bd5_el hE
  refine lv_aload_n hx hb dL_setTemperature_0 rfl (lv_at hl 0 rfl) ?_
  refine lv_iload_n hx hb dL_setTemperature_1 rfl (lv_at hl 1 rfl) ?_
  refine lv_iload_n hx hb dL_setTemperature_2 rfl (lv_at hl 2 rfl) ?_
  refine kxi (X := []) (Y := []) (ws1 := (W_All cy aI aT adP adS adB adO adR adA aP aS aB aO aR aA aH ah imT imdP indP imdS imdB imdO imdR imdA indA mP0 inP imS imB imO imR imA inA mH0 hs0)) (xV (X := []) (Y := []) (As := [.int x1, .int x2]) (rest := []) hC (c_X8_setTemperature l hst D cy aI aT adP adS adB adO adR adA aP aS aB aO aR aA aH ah x1 x2 imT imdP indP imdS imdB imdO imdR imdA indA imP inP imS imB imO imR imA inA imH ihs k0 r0 mP0 mH0 hs0 hc) (cwV 2 hts gL_setTemperature_X8_setTemperature rfl rfl rfl cd_X8_setTemperature ⟨Nat.le_of_ble_eq_true rfl, Nat.le_of_ble_eq_true rfl⟩) hK hN hP hD hS hA rfl 0 8 rfl rfl rfl hl.1 rfl (lv_room (Nat.le_of_ble_eq_true rfl)) dL_setTemperature_3 ⟨Nat.le_of_ble_eq_true rfl, Nat.le_of_ble_eq_true rfl⟩) hP hD hS hA rfl (fst_All cy aI aT adP adS adB adO adR adA aP aS aB aO aR aA aH ah imT imdP indP imdS imdB imdO imdR imdA indA imP inP imS imB imO imR imA inA imH ihs imT imdP indP imdS imdB imdO imdR imdA indA mP0 inP imS imB imO imR imA inA mH0 hs0) rfl (fun hk0 H locs ce q9 hP hD hS hce hcv hcl => ?_) (fun hk0 H locs hP hD hS => ?_)
  · replace hE := it_f hE hk0
    by_cases c1 : k0 = 1
    · replace hE := it_t hE c1
      have hE := Option.some.inj hE
      obtain ⟨qq0, hE⟩ := Prod.mk.inj hE
      obtain ⟨qq1, hE⟩ := Prod.mk.inj hE
      obtain ⟨qq2, qq3⟩ := Prod.mk.inj hE
      rw [c1] at hcl
      refine kc (k := 1) (pre := []) (suf := [⟨0, 6, 11, 15⟩]) hown ⟨0, 6, 7, 25⟩ htab hX (by decide) (by decide) (fun z hz => absurd hz List.not_mem_nil) rfl (by decide) (hts _ (mC qg_L_25)) hce hcv hcl ?_
      refine W.eq (g2 := F0 m 7 ls [.ref q9]) rfl ?_
      refine lv_astore_n (lv' := [(3, .ref q9), (0, .ref (aI 0)), (1, .int x1), (2, .int x2)]) hx hb dL_setTemperature_7 rfl hl (by decide) rfl (fun ls hl => ?_)
      have kq : (Cond.constant RL 27 (-2000001)).before args s = true := hts _ (mC qk_L_27)
      refine lv_ldc hx hb hown kq dL_setTemperature_8 ?_
      exact ei hx hb hr hlocks hK hP hD hS qq0 (by rw [qq1, qq2, qq3]) dL_setTemperature_10
    · replace hE := it_f hE c1
      by_cases c2 : k0 = 2
      · replace hE := it_t hE c2
        have hE := Option.some.inj hE
        obtain ⟨qq0, hE⟩ := Prod.mk.inj hE
        obtain ⟨qq1, hE⟩ := Prod.mk.inj hE
        obtain ⟨qq2, qq3⟩ := Prod.mk.inj hE
        rw [c2] at hcl
        refine kc (k := 2) (pre := [⟨0, 6, 7, 25⟩]) (suf := []) hown ⟨0, 6, 11, 15⟩ htab hX (by decide) (by decide) (fun z hz => by
        rcases List.mem_singleton.mp hz with rfl
        · exact ⟨by decide, 1, by decide, by decide, by decide, hts _ (mC qg_L_25)⟩) rfl (by decide) (hts _ (mC qg_L_15)) hce hcv hcl ?_
        refine W.eq (g2 := F0 m 11 ls [.ref q9]) rfl ?_
        refine lv_astore_n (lv' := [(3, .ref q9), (0, .ref (aI 0)), (1, .int x1), (2, .int x2)]) hx hb dL_setTemperature_11 rfl hl (by decide) rfl (fun ls hl => ?_)
        have kq : (Cond.constant RL 17 (-2000002)).before args s = true := hts _ (mC qk_L_17)
        refine lv_ldc hx hb hown kq dL_setTemperature_12 ?_
        exact ei hx hb hr hlocks hK hP hD hS qq0 (by rw [qq1, qq2, qq3]) dL_setTemperature_14
      · replace hE := it_f hE c2
        exact absurd hE (fun h9 => nomatch h9)
  · replace hE := it_t hE hk0
    have hE := Option.some.inj hE
    obtain ⟨qq0, hE⟩ := Prod.mk.inj hE
    obtain ⟨qq1, hE⟩ := Prod.mk.inj hE
    obtain ⟨qq2, qq3⟩ := Prod.mk.inj hE
    exact ei hx hb hr hlocks hK hP hD hS qq0 (by rw [qq1, qq2, qq3]) dL_setTemperature_6
abbrev rm_L_set : Room := { frames := 9, cells := 2, slots := 12, locals := 144 }
set_option maxHeartbeats 40000000 in
set_option maxRecDepth 100000 in
theorem c_L_set (l : Launch) (hst : l.stackTraces = false) (D : va_G) (cy : Nat → Nat) (aI aT adP adS adB adO adR adA aP aS aB aO aR aA aH : Nat → Nat) (ah : Nat → Nat → Nat → Nat) (x1 x2 : Int32) (imT : Mem) (imdP : Mem) (indP : MemL) (imdS : Mem) (imdB : Mem) (imdO : Mem) (imdR : Mem) (imdA : Mem) (indA : MemL) (imP : Mem) (inP : MemL) (imS : Mem) (imB : Mem) (imO : Mem) (imR : Mem) (imA : Mem) (inA : MemL) (imH : Mem) (ihs : (Nat → PSt)) (r' : Int32) (mP' : Mem) (mH' : Mem) (hs' : (Nat → PSt)) (hE : f_L_set x1 x2 imT imdP indP imdS imdB imdO imdR imdA indA imP inP imS imB imO imR imA inA imH ihs = some (r', mP', mH', hs')) : CH l yL_set wsL_set rm_L_set D cy [.ref (aI 0), .int x1, .int x2] (W_All cy aI aT adP adS adB adO adR adA aP aS aB aO aR aA aH ah imT imdP indP imdS imdB imdO imdR imdA indA imP inP imS imB imO imR imA inA imH ihs) 2 12 (QI D cy r' (W_All cy aI aT adP adS adB adO adR adA aP aS aB aO aR aA aH ah imT imdP indP imdS imdB imdO imdR imdA indA mP' inP imS imB imO imR imA inA mH' hs')) := by
  refine CH_of (cc := cL_set) (maxL := 4) (ret := (some .int)) (hh := [(0, 6, 7, 25), (0, 6, 11, 15)]) (by decide) rfl (Nat.le_of_ble_eq_true rfl) (fun p e s m args below meth c A ls hx hb hr hml hlocks hown hts hA htab hK hN hX hP hD hS hl => ?_)
  have hown : s.vm.findClass RL = some m.cls := hown
  have hl : lv_has ls 4 [(0, .ref (aI 0)), (1, .int x1), (2, .int x2)] := hl
  have hC : CallFix p m c cL_set 4 s args wsL_set RL := ⟨hx, hb, hml, hown, hts⟩
  unfold f_L_set at hE
  obtain ⟨k0, r0, mP0, mH0, hs0, hc, hE⟩ := bd5_el hE
  refine lv_aload_n hx hb dL_set_0 rfl (lv_at hl 0 rfl) ?_
  refine lv_iload_n hx hb dL_set_1 rfl (lv_at hl 1 rfl) ?_
  refine lv_iload_n hx hb dL_set_2 rfl (lv_at hl 2 rfl) ?_
  refine kxi (X := []) (Y := []) (ws1 := (W_All cy aI aT adP adS adB adO adR adA aP aS aB aO aR aA aH ah imT imdP indP imdS imdB imdO imdR imdA indA mP0 inP imS imB imO imR imA inA mH0 hs0)) (xV (X := []) (Y := []) (As := [.int x1, .int x2]) (rest := []) hC (c_X8_set l hst D cy aI aT adP adS adB adO adR adA aP aS aB aO aR aA aH ah x1 x2 imT imdP indP imdS imdB imdO imdR imdA indA imP inP imS imB imO imR imA inA imH ihs k0 r0 mP0 mH0 hs0 hc) (cwV 2 hts gL_set_X8_set rfl rfl rfl cd_X8_set ⟨Nat.le_of_ble_eq_true rfl, Nat.le_of_ble_eq_true rfl⟩) hK hN hP hD hS hA rfl 0 8 rfl rfl rfl hl.1 rfl (lv_room (Nat.le_of_ble_eq_true rfl)) dL_set_3 ⟨Nat.le_of_ble_eq_true rfl, Nat.le_of_ble_eq_true rfl⟩) hP hD hS hA rfl (fst_All cy aI aT adP adS adB adO adR adA aP aS aB aO aR aA aH ah imT imdP indP imdS imdB imdO imdR imdA indA imP inP imS imB imO imR imA inA imH ihs imT imdP indP imdS imdB imdO imdR imdA indA mP0 inP imS imB imO imR imA inA mH0 hs0) rfl (fun hk0 H locs ce q9 hP hD hS hce hcv hcl => ?_) (fun hk0 H locs hP hD hS => ?_)
  · replace hE := it_f hE hk0
    by_cases c1 : k0 = 1
    · replace hE := it_t hE c1
      have hE := Option.some.inj hE
      obtain ⟨qq0, hE⟩ := Prod.mk.inj hE
      obtain ⟨qq1, hE⟩ := Prod.mk.inj hE
      obtain ⟨qq2, qq3⟩ := Prod.mk.inj hE
      rw [c1] at hcl
      refine kc (k := 1) (pre := []) (suf := [⟨0, 6, 11, 15⟩]) hown ⟨0, 6, 7, 25⟩ htab hX (by decide) (by decide) (fun z hz => absurd hz List.not_mem_nil) rfl (by decide) (hts _ (mC qg_L_25)) hce hcv hcl ?_
      refine W.eq (g2 := F0 m 7 ls [.ref q9]) rfl ?_
      refine lv_astore_n (lv' := [(3, .ref q9), (0, .ref (aI 0)), (1, .int x1), (2, .int x2)]) hx hb dL_set_7 rfl hl (by decide) rfl (fun ls hl => ?_)
      have kq : (Cond.constant RL 27 (-2000001)).before args s = true := hts _ (mC qk_L_27)
      refine lv_ldc hx hb hown kq dL_set_8 ?_
      exact ei hx hb hr hlocks hK hP hD hS qq0 (by rw [qq1, qq2, qq3]) dL_set_10
    · replace hE := it_f hE c1
      by_cases c2 : k0 = 2
      · replace hE := it_t hE c2
        have hE := Option.some.inj hE
        obtain ⟨qq0, hE⟩ := Prod.mk.inj hE
        obtain ⟨qq1, hE⟩ := Prod.mk.inj hE
        obtain ⟨qq2, qq3⟩ := Prod.mk.inj hE
        rw [c2] at hcl
        refine kc (k := 2) (pre := [⟨0, 6, 7, 25⟩]) (suf := []) hown ⟨0, 6, 11, 15⟩ htab hX (by decide) (by decide) (fun z hz => by
        rcases List.mem_singleton.mp hz with rfl
        · exact ⟨by decide, 1, by decide, by decide, by decide, hts _ (mC qg_L_25)⟩) rfl (by decide) (hts _ (mC qg_L_15)) hce hcv hcl ?_
        refine W.eq (g2 := F0 m 11 ls [.ref q9]) rfl ?_
        refine lv_astore_n (lv' := [(3, .ref q9), (0, .ref (aI 0)), (1, .int x1), (2, .int x2)]) hx hb dL_set_11 rfl hl (by decide) rfl (fun ls hl => ?_)
        have kq : (Cond.constant RL 17 (-2000002)).before args s = true := hts _ (mC qk_L_17)
        refine lv_ldc hx hb hown kq dL_set_12 ?_
        exact ei hx hb hr hlocks hK hP hD hS qq0 (by rw [qq1, qq2, qq3]) dL_set_14
      · replace hE := it_f hE c2
        exact absurd hE (fun h9 => nomatch h9)
  · replace hE := it_t hE hk0
    have hE := Option.some.inj hE
    obtain ⟨qq0, hE⟩ := Prod.mk.inj hE
    obtain ⟨qq1, hE⟩ := Prod.mk.inj hE
    obtain ⟨qq2, qq3⟩ := Prod.mk.inj hE
    exact ei hx hb hr hlocks hK hP hD hS qq0 (by rw [qq1, qq2, qq3]) dL_set_6
abbrev rm_L_move : Room := { frames := 8, cells := 1, slots := 6, locals := 125 }
set_option maxHeartbeats 40000000 in
set_option maxRecDepth 100000 in
theorem c_L_move (l : Launch) (hst : l.stackTraces = false) (D : va_G) (cy : Nat → Nat) (aI aT adP adS adB adO adR adA aP aS aB aO aR aA aH : Nat → Nat) (ah : Nat → Nat → Nat → Nat) (x1 x2 : Int32) (imT : Mem) (imdP : Mem) (indP : MemL) (imdS : Mem) (imdB : Mem) (imdO : Mem) (imdR : Mem) (imdA : Mem) (indA : MemL) (imP : Mem) (inP : MemL) (imS : Mem) (imB : Mem) (imO : Mem) (imR : Mem) (imA : Mem) (inA : MemL) (imH : Mem) (ihs : (Nat → PSt)) (r' : Int32) (mS' : Mem) (mH' : Mem) (hs' : (Nat → PSt)) (hE : f_L_move x1 x2 imT imdP indP imdS imdB imdO imdR imdA indA imP inP imS imB imO imR imA inA imH ihs = some (r', mS', mH', hs')) : CH l yL_move wsL_move rm_L_move D cy [.ref (aI 0), .int x1, .int x2] (W_All cy aI aT adP adS adB adO adR adA aP aS aB aO aR aA aH ah imT imdP indP imdS imdB imdO imdR imdA indA imP inP imS imB imO imR imA inA imH ihs) 1 6 (QI D cy r' (W_All cy aI aT adP adS adB adO adR adA aP aS aB aO aR aA aH ah imT imdP indP imdS imdB imdO imdR imdA indA imP inP mS' imB imO imR imA inA mH' hs')) := by
  refine CH_of (cc := cL_move) (maxL := 4) (ret := (some .int)) (hh := [(0, 6, 7, 25), (0, 6, 11, 15), (0, 6, 15, 18)]) (by decide) rfl (Nat.le_of_ble_eq_true rfl) (fun p e s m args below meth c A ls hx hb hr hml hlocks hown hts hA htab hK hN hX hP hD hS hl => ?_)
  have hown : s.vm.findClass RL = some m.cls := hown
  have hl : lv_has ls 4 [(0, .ref (aI 0)), (1, .int x1), (2, .int x2)] := hl
  have hC : CallFix p m c cL_move 4 s args wsL_move RL := ⟨hx, hb, hml, hown, hts⟩
  unfold f_L_move at hE
  obtain ⟨k0, r0, mS0, mH0, hs0, hc, hE⟩ := bd5_el hE
  refine lv_aload_n hx hb dL_move_0 rfl (lv_at hl 0 rfl) ?_
  refine lv_iload_n hx hb dL_move_1 rfl (lv_at hl 1 rfl) ?_
  refine lv_iload_n hx hb dL_move_2 rfl (lv_at hl 2 rfl) ?_
  refine kxi (X := []) (Y := []) (ws1 := (W_All cy aI aT adP adS adB adO adR adA aP aS aB aO aR aA aH ah imT imdP indP imdS imdB imdO imdR imdA indA imP inP mS0 imB imO imR imA inA mH0 hs0)) (xV (X := []) (Y := []) (As := [.int x1, .int x2]) (rest := []) hC (c_X8_move l hst D cy aI aT adP adS adB adO adR adA aP aS aB aO aR aA aH ah x1 x2 imT imdP indP imdS imdB imdO imdR imdA indA imP inP imS imB imO imR imA inA imH ihs k0 r0 mS0 mH0 hs0 hc) (cwV 2 hts gL_move_X8_move rfl rfl rfl cd_X8_move ⟨Nat.le_of_ble_eq_true rfl, Nat.le_of_ble_eq_true rfl⟩) hK hN hP hD hS hA rfl 0 8 rfl rfl rfl hl.1 rfl (lv_room (Nat.le_of_ble_eq_true rfl)) dL_move_3 ⟨Nat.le_of_ble_eq_true rfl, Nat.le_of_ble_eq_true rfl⟩) hP hD hS hA rfl (fst_All cy aI aT adP adS adB adO adR adA aP aS aB aO aR aA aH ah imT imdP indP imdS imdB imdO imdR imdA indA imP inP imS imB imO imR imA inA imH ihs imT imdP indP imdS imdB imdO imdR imdA indA imP inP mS0 imB imO imR imA inA mH0 hs0) rfl (fun hk0 H locs ce q9 hP hD hS hce hcv hcl => ?_) (fun hk0 H locs hP hD hS => ?_)
  · replace hE := it_f hE hk0
    by_cases c1 : k0 = 1
    · replace hE := it_t hE c1
      have hE := Option.some.inj hE
      obtain ⟨qq0, hE⟩ := Prod.mk.inj hE
      obtain ⟨qq1, hE⟩ := Prod.mk.inj hE
      obtain ⟨qq2, qq3⟩ := Prod.mk.inj hE
      rw [c1] at hcl
      refine kc (k := 1) (pre := []) (suf := [⟨0, 6, 11, 15⟩, ⟨0, 6, 15, 18⟩]) hown ⟨0, 6, 7, 25⟩ htab hX (by decide) (by decide) (fun z hz => absurd hz List.not_mem_nil) rfl (by decide) (hts _ (mC qg_L_25)) hce hcv hcl ?_
      refine W.eq (g2 := F0 m 7 ls [.ref q9]) rfl ?_
      refine lv_astore_n (lv' := [(3, .ref q9), (0, .ref (aI 0)), (1, .int x1), (2, .int x2)]) hx hb dL_move_7 rfl hl (by decide) rfl (fun ls hl => ?_)
      have kq : (Cond.constant RL 27 (-2000001)).before args s = true := hts _ (mC qk_L_27)
      refine lv_ldc hx hb hown kq dL_move_8 ?_
      exact ei hx hb hr hlocks hK hP hD hS qq0 (by rw [qq1, qq2, qq3]) dL_move_10
    · replace hE := it_f hE c1
      by_cases c2 : k0 = 2
      · replace hE := it_t hE c2
        have hE := Option.some.inj hE
        obtain ⟨qq0, hE⟩ := Prod.mk.inj hE
        obtain ⟨qq1, hE⟩ := Prod.mk.inj hE
        obtain ⟨qq2, qq3⟩ := Prod.mk.inj hE
        rw [c2] at hcl
        refine kc (k := 2) (pre := [⟨0, 6, 7, 25⟩]) (suf := [⟨0, 6, 15, 18⟩]) hown ⟨0, 6, 11, 15⟩ htab hX (by decide) (by decide) (fun z hz => by
        rcases List.mem_singleton.mp hz with rfl
        · exact ⟨by decide, 1, by decide, by decide, by decide, hts _ (mC qg_L_25)⟩) rfl (by decide) (hts _ (mC qg_L_15)) hce hcv hcl ?_
        refine W.eq (g2 := F0 m 11 ls [.ref q9]) rfl ?_
        refine lv_astore_n (lv' := [(3, .ref q9), (0, .ref (aI 0)), (1, .int x1), (2, .int x2)]) hx hb dL_move_11 rfl hl (by decide) rfl (fun ls hl => ?_)
        have kq : (Cond.constant RL 17 (-2000002)).before args s = true := hts _ (mC qk_L_17)
        refine lv_ldc hx hb hown kq dL_move_12 ?_
        exact ei hx hb hr hlocks hK hP hD hS qq0 (by rw [qq1, qq2, qq3]) dL_move_14
      · replace hE := it_f hE c2
        by_cases c3 : k0 = 3
        · replace hE := it_t hE c3
          have hE := Option.some.inj hE
          obtain ⟨qq0, hE⟩ := Prod.mk.inj hE
          obtain ⟨qq1, hE⟩ := Prod.mk.inj hE
          obtain ⟨qq2, qq3⟩ := Prod.mk.inj hE
          rw [c3] at hcl
          refine kc (k := 3) (pre := [⟨0, 6, 7, 25⟩, ⟨0, 6, 11, 15⟩]) (suf := []) hown ⟨0, 6, 15, 18⟩ htab hX (by decide) (by decide) (fun z hz => by
          rcases List.mem_cons.mp hz with rfl | hz
          · exact ⟨by decide, 1, by decide, by decide, by decide, hts _ (mC qg_L_25)⟩
          · rcases List.mem_singleton.mp hz with rfl
            exact ⟨by decide, 2, by decide, by decide, by decide, hts _ (mC qg_L_15)⟩) rfl (by decide) (hts _ (mC qg_L_18)) hce hcv hcl ?_
          refine W.eq (g2 := F0 m 15 ls [.ref q9]) rfl ?_
          refine lv_astore_n (lv' := [(3, .ref q9), (0, .ref (aI 0)), (1, .int x1), (2, .int x2)]) hx hb dL_move_15 rfl hl (by decide) rfl (fun ls hl => ?_)
          have kq : (Cond.constant RL 20 (-2000003)).before args s = true := hts _ (mC qk_L_20)
          refine lv_ldc hx hb hown kq dL_move_16 ?_
          exact ei hx hb hr hlocks hK hP hD hS qq0 (by rw [qq1, qq2, qq3]) dL_move_18
        · replace hE := it_f hE c3
          exact absurd hE (fun h9 => nomatch h9)
  · replace hE := it_t hE hk0
    have hE := Option.some.inj hE
    obtain ⟨qq0, hE⟩ := Prod.mk.inj hE
    obtain ⟨qq1, hE⟩ := Prod.mk.inj hE
    obtain ⟨qq2, qq3⟩ := Prod.mk.inj hE
    exact ei hx hb hr hlocks hK hP hD hS qq0 (by rw [qq1, qq2, qq3]) dL_move_6
abbrev rm_L_pass : Room := { frames := 8, cells := 1, slots := 6, locals := 166 }
set_option maxHeartbeats 40000000 in
set_option maxRecDepth 100000 in
theorem c_L_pass (l : Launch) (hst : l.stackTraces = false) (D : va_G) (cy : Nat → Nat) (aI aT adP adS adB adO adR adA aP aS aB aO aR aA aH : Nat → Nat) (ah : Nat → Nat → Nat → Nat) (x1 : Int32) (imT : Mem) (imdP : Mem) (indP : MemL) (imdS : Mem) (imdB : Mem) (imdO : Mem) (imdR : Mem) (imdA : Mem) (indA : MemL) (imP : Mem) (inP : MemL) (imS : Mem) (imB : Mem) (imO : Mem) (imR : Mem) (imA : Mem) (inA : MemL) (imH : Mem) (ihs : (Nat → PSt)) (r' : Int32) (mP' : Mem) (nP' : MemL) (mS' : Mem) (mB' : Mem) (mO' : Mem) (mR' : Mem) (mA' : Mem) (nA' : MemL) (mH' : Mem) (hs' : (Nat → PSt)) (hE : f_L_pass x1 imT imdP indP imdS imdB imdO imdR imdA indA imP inP imS imB imO imR imA inA imH ihs = some (r', mP', nP', mS', mB', mO', mR', mA', nA', mH', hs')) : CH l yL_pass wsL_pass rm_L_pass D cy [.ref (aI 0), .int x1] (W_All cy aI aT adP adS adB adO adR adA aP aS aB aO aR aA aH ah imT imdP indP imdS imdB imdO imdR imdA indA imP inP imS imB imO imR imA inA imH ihs) 1 6 (QI D cy r' (W_All cy aI aT adP adS adB adO adR adA aP aS aB aO aR aA aH ah imT imdP indP imdS imdB imdO imdR imdA indA mP' nP' mS' mB' mO' mR' mA' nA' mH' hs')) := by
  refine CH_of (cc := cL_pass) (maxL := 3) (ret := (some .int)) (hh := [(0, 5, 6, 15), (0, 5, 10, 18)]) (by decide) rfl (Nat.le_of_ble_eq_true rfl) (fun p e s m args below meth c A ls hx hb hr hml hlocks hown hts hA htab hK hN hX hP hD hS hl => ?_)
  have hown : s.vm.findClass RL = some m.cls := hown
  have hl : lv_has ls 3 [(0, .ref (aI 0)), (1, .int x1)] := hl
  have hC : CallFix p m c cL_pass 3 s args wsL_pass RL := ⟨hx, hb, hml, hown, hts⟩
  unfold f_L_pass at hE
  obtain ⟨k0, r0, mP0, nP0, mS0, mB0, mO0, mR0, mA0, nA0, mH0, hs0, hc, hE⟩ := bd12_el hE
  refine lv_aload_n hx hb dL_pass_0 rfl (lv_at hl 0 rfl) ?_
  refine lv_iload_n hx hb dL_pass_1 rfl (lv_at hl 1 rfl) ?_
  refine kxi (X := []) (Y := []) (ws1 := (W_All cy aI aT adP adS adB adO adR adA aP aS aB aO aR aA aH ah imT imdP indP imdS imdB imdO imdR imdA indA mP0 nP0 mS0 mB0 mO0 mR0 mA0 nA0 mH0 hs0)) (xV (X := []) (Y := []) (As := [.int x1]) (rest := []) hC (c_X8_pass l hst D cy aI aT adP adS adB adO adR adA aP aS aB aO aR aA aH ah x1 imT imdP indP imdS imdB imdO imdR imdA indA imP inP imS imB imO imR imA inA imH ihs k0 r0 mP0 nP0 mS0 mB0 mO0 mR0 mA0 nA0 mH0 hs0 hc) (cwV 1 hts gL_pass_X8_pass rfl rfl rfl cd_X8_pass ⟨Nat.le_of_ble_eq_true rfl, Nat.le_of_ble_eq_true rfl⟩) hK hN hP hD hS hA rfl 0 8 rfl rfl rfl hl.1 rfl (lv_room (Nat.le_of_ble_eq_true rfl)) dL_pass_2 ⟨Nat.le_of_ble_eq_true rfl, Nat.le_of_ble_eq_true rfl⟩) hP hD hS hA rfl (fst_All cy aI aT adP adS adB adO adR adA aP aS aB aO aR aA aH ah imT imdP indP imdS imdB imdO imdR imdA indA imP inP imS imB imO imR imA inA imH ihs imT imdP indP imdS imdB imdO imdR imdA indA mP0 nP0 mS0 mB0 mO0 mR0 mA0 nA0 mH0 hs0) rfl (fun hk0 H locs ce q9 hP hD hS hce hcv hcl => ?_) (fun hk0 H locs hP hD hS => ?_)
  · replace hE := it_f hE hk0
    by_cases c2 : k0 = 2
    · replace hE := it_t hE c2
      have hE := Option.some.inj hE
      obtain ⟨qq0, hE⟩ := Prod.mk.inj hE
      obtain ⟨qq1, hE⟩ := Prod.mk.inj hE
      obtain ⟨qq2, hE⟩ := Prod.mk.inj hE
      obtain ⟨qq3, hE⟩ := Prod.mk.inj hE
      obtain ⟨qq4, hE⟩ := Prod.mk.inj hE
      obtain ⟨qq5, hE⟩ := Prod.mk.inj hE
      obtain ⟨qq6, hE⟩ := Prod.mk.inj hE
      obtain ⟨qq7, hE⟩ := Prod.mk.inj hE
      obtain ⟨qq8, hE⟩ := Prod.mk.inj hE
      obtain ⟨qq9, qq10⟩ := Prod.mk.inj hE
      rw [c2] at hcl
      refine kc (k := 2) (pre := []) (suf := [⟨0, 5, 10, 18⟩]) hown ⟨0, 5, 6, 15⟩ htab hX (by decide) (by decide) (fun z hz => absurd hz List.not_mem_nil) rfl (by decide) (hts _ (mC qg_L_15)) hce hcv hcl ?_
      refine W.eq (g2 := F0 m 6 ls [.ref q9]) rfl ?_
      refine lv_astore_n (lv' := [(2, .ref q9), (0, .ref (aI 0)), (1, .int x1)]) hx hb dL_pass_6 rfl hl (by decide) rfl (fun ls hl => ?_)
      have kq : (Cond.constant RL 17 (-2000002)).before args s = true := hts _ (mC qk_L_17)
      refine lv_ldc hx hb hown kq dL_pass_7 ?_
      exact ei hx hb hr hlocks hK hP hD hS qq0 (by rw [qq1, qq2, qq3, qq4, qq5, qq6, qq7, qq8, qq9, qq10]) dL_pass_9
    · replace hE := it_f hE c2
      by_cases c3 : k0 = 3
      · replace hE := it_t hE c3
        have hE := Option.some.inj hE
        obtain ⟨qq0, hE⟩ := Prod.mk.inj hE
        obtain ⟨qq1, hE⟩ := Prod.mk.inj hE
        obtain ⟨qq2, hE⟩ := Prod.mk.inj hE
        obtain ⟨qq3, hE⟩ := Prod.mk.inj hE
        obtain ⟨qq4, hE⟩ := Prod.mk.inj hE
        obtain ⟨qq5, hE⟩ := Prod.mk.inj hE
        obtain ⟨qq6, hE⟩ := Prod.mk.inj hE
        obtain ⟨qq7, hE⟩ := Prod.mk.inj hE
        obtain ⟨qq8, hE⟩ := Prod.mk.inj hE
        obtain ⟨qq9, qq10⟩ := Prod.mk.inj hE
        rw [c3] at hcl
        refine kc (k := 3) (pre := [⟨0, 5, 6, 15⟩]) (suf := []) hown ⟨0, 5, 10, 18⟩ htab hX (by decide) (by decide) (fun z hz => by
        rcases List.mem_singleton.mp hz with rfl
        · exact ⟨by decide, 2, by decide, by decide, by decide, hts _ (mC qg_L_15)⟩) rfl (by decide) (hts _ (mC qg_L_18)) hce hcv hcl ?_
        refine W.eq (g2 := F0 m 10 ls [.ref q9]) rfl ?_
        refine lv_astore_n (lv' := [(2, .ref q9), (0, .ref (aI 0)), (1, .int x1)]) hx hb dL_pass_10 rfl hl (by decide) rfl (fun ls hl => ?_)
        have kq : (Cond.constant RL 20 (-2000003)).before args s = true := hts _ (mC qk_L_20)
        refine lv_ldc hx hb hown kq dL_pass_11 ?_
        exact ei hx hb hr hlocks hK hP hD hS qq0 (by rw [qq1, qq2, qq3, qq4, qq5, qq6, qq7, qq8, qq9, qq10]) dL_pass_13
      · replace hE := it_f hE c3
        exact absurd hE (fun h9 => nomatch h9)
  · replace hE := it_t hE hk0
    have hE := Option.some.inj hE
    obtain ⟨qq0, hE⟩ := Prod.mk.inj hE
    obtain ⟨qq1, hE⟩ := Prod.mk.inj hE
    obtain ⟨qq2, hE⟩ := Prod.mk.inj hE
    obtain ⟨qq3, hE⟩ := Prod.mk.inj hE
    obtain ⟨qq4, hE⟩ := Prod.mk.inj hE
    obtain ⟨qq5, hE⟩ := Prod.mk.inj hE
    obtain ⟨qq6, hE⟩ := Prod.mk.inj hE
    obtain ⟨qq7, hE⟩ := Prod.mk.inj hE
    obtain ⟨qq8, hE⟩ := Prod.mk.inj hE
    obtain ⟨qq9, qq10⟩ := Prod.mk.inj hE
    exact ei hx hb hr hlocks hK hP hD hS qq0 (by rw [qq1, qq2, qq3, qq4, qq5, qq6, qq7, qq8, qq9, qq10]) dL_pass_5
abbrev rm_L_addBoat : Room := { frames := 9, cells := 2, slots := 12, locals := 143 }
set_option maxHeartbeats 40000000 in
set_option maxRecDepth 100000 in
theorem c_L_addBoat (l : Launch) (hst : l.stackTraces = false) (D : va_G) (cy : Nat → Nat) (aI aT adP adS adB adO adR adA aP aS aB aO aR aA aH : Nat → Nat) (ah : Nat → Nat → Nat → Nat) (x1 : Int32) (imT : Mem) (imdP : Mem) (indP : MemL) (imdS : Mem) (imdB : Mem) (imdO : Mem) (imdR : Mem) (imdA : Mem) (indA : MemL) (imP : Mem) (inP : MemL) (imS : Mem) (imB : Mem) (imO : Mem) (imR : Mem) (imA : Mem) (inA : MemL) (imH : Mem) (ihs : (Nat → PSt)) (r' : Int32) (mB' : Mem) (mH' : Mem) (hs' : (Nat → PSt)) (hE : f_L_addBoat x1 imT imdP indP imdS imdB imdO imdR imdA indA imP inP imS imB imO imR imA inA imH ihs = some (r', mB', mH', hs')) : CH l yL_addBoat wsL_addBoat rm_L_addBoat D cy [.ref (aI 0), .int x1] (W_All cy aI aT adP adS adB adO adR adA aP aS aB aO aR aA aH ah imT imdP indP imdS imdB imdO imdR imdA indA imP inP imS imB imO imR imA inA imH ihs) 2 12 (QI D cy r' (W_All cy aI aT adP adS adB adO adR adA aP aS aB aO aR aA aH ah imT imdP indP imdS imdB imdO imdR imdA indA imP inP imS mB' imO imR imA inA mH' hs')) := by
  refine CH_of (cc := cL_addBoat) (maxL := 3) (ret := (some .int)) (hh := [(0, 5, 6, 15), (0, 5, 10, 18)]) (by decide) rfl (Nat.le_of_ble_eq_true rfl) (fun p e s m args below meth c A ls hx hb hr hml hlocks hown hts hA htab hK hN hX hP hD hS hl => ?_)
  have hown : s.vm.findClass RL = some m.cls := hown
  have hl : lv_has ls 3 [(0, .ref (aI 0)), (1, .int x1)] := hl
  have hC : CallFix p m c cL_addBoat 3 s args wsL_addBoat RL := ⟨hx, hb, hml, hown, hts⟩
  unfold f_L_addBoat at hE
  obtain ⟨k0, r0, mB0, mH0, hs0, hc, hE⟩ := bd5_el hE
  refine lv_aload_n hx hb dL_addBoat_0 rfl (lv_at hl 0 rfl) ?_
  refine lv_iload_n hx hb dL_addBoat_1 rfl (lv_at hl 1 rfl) ?_
  refine kxi (X := []) (Y := []) (ws1 := (W_All cy aI aT adP adS adB adO adR adA aP aS aB aO aR aA aH ah imT imdP indP imdS imdB imdO imdR imdA indA imP inP imS mB0 imO imR imA inA mH0 hs0)) (xV (X := []) (Y := []) (As := [.int x1]) (rest := []) hC (c_X8_addBoat l hst D cy aI aT adP adS adB adO adR adA aP aS aB aO aR aA aH ah x1 imT imdP indP imdS imdB imdO imdR imdA indA imP inP imS imB imO imR imA inA imH ihs k0 r0 mB0 mH0 hs0 hc) (cwV 1 hts gL_addBoat_X8_addBoat rfl rfl rfl cd_X8_addBoat ⟨Nat.le_of_ble_eq_true rfl, Nat.le_of_ble_eq_true rfl⟩) hK hN hP hD hS hA rfl 0 8 rfl rfl rfl hl.1 rfl (lv_room (Nat.le_of_ble_eq_true rfl)) dL_addBoat_2 ⟨Nat.le_of_ble_eq_true rfl, Nat.le_of_ble_eq_true rfl⟩) hP hD hS hA rfl (fst_All cy aI aT adP adS adB adO adR adA aP aS aB aO aR aA aH ah imT imdP indP imdS imdB imdO imdR imdA indA imP inP imS imB imO imR imA inA imH ihs imT imdP indP imdS imdB imdO imdR imdA indA imP inP imS mB0 imO imR imA inA mH0 hs0) rfl (fun hk0 H locs ce q9 hP hD hS hce hcv hcl => ?_) (fun hk0 H locs hP hD hS => ?_)
  · replace hE := it_f hE hk0
    by_cases c2 : k0 = 2
    · replace hE := it_t hE c2
      have hE := Option.some.inj hE
      obtain ⟨qq0, hE⟩ := Prod.mk.inj hE
      obtain ⟨qq1, hE⟩ := Prod.mk.inj hE
      obtain ⟨qq2, qq3⟩ := Prod.mk.inj hE
      rw [c2] at hcl
      refine kc (k := 2) (pre := []) (suf := [⟨0, 5, 10, 18⟩]) hown ⟨0, 5, 6, 15⟩ htab hX (by decide) (by decide) (fun z hz => absurd hz List.not_mem_nil) rfl (by decide) (hts _ (mC qg_L_15)) hce hcv hcl ?_
      refine W.eq (g2 := F0 m 6 ls [.ref q9]) rfl ?_
      refine lv_astore_n (lv' := [(2, .ref q9), (0, .ref (aI 0)), (1, .int x1)]) hx hb dL_addBoat_6 rfl hl (by decide) rfl (fun ls hl => ?_)
      have kq : (Cond.constant RL 17 (-2000002)).before args s = true := hts _ (mC qk_L_17)
      refine lv_ldc hx hb hown kq dL_addBoat_7 ?_
      exact ei hx hb hr hlocks hK hP hD hS qq0 (by rw [qq1, qq2, qq3]) dL_addBoat_9
    · replace hE := it_f hE c2
      by_cases c3 : k0 = 3
      · replace hE := it_t hE c3
        have hE := Option.some.inj hE
        obtain ⟨qq0, hE⟩ := Prod.mk.inj hE
        obtain ⟨qq1, hE⟩ := Prod.mk.inj hE
        obtain ⟨qq2, qq3⟩ := Prod.mk.inj hE
        rw [c3] at hcl
        refine kc (k := 3) (pre := [⟨0, 5, 6, 15⟩]) (suf := []) hown ⟨0, 5, 10, 18⟩ htab hX (by decide) (by decide) (fun z hz => by
        rcases List.mem_singleton.mp hz with rfl
        · exact ⟨by decide, 2, by decide, by decide, by decide, hts _ (mC qg_L_15)⟩) rfl (by decide) (hts _ (mC qg_L_18)) hce hcv hcl ?_
        refine W.eq (g2 := F0 m 10 ls [.ref q9]) rfl ?_
        refine lv_astore_n (lv' := [(2, .ref q9), (0, .ref (aI 0)), (1, .int x1)]) hx hb dL_addBoat_10 rfl hl (by decide) rfl (fun ls hl => ?_)
        have kq : (Cond.constant RL 20 (-2000003)).before args s = true := hts _ (mC qk_L_20)
        refine lv_ldc hx hb hown kq dL_addBoat_11 ?_
        exact ei hx hb hr hlocks hK hP hD hS qq0 (by rw [qq1, qq2, qq3]) dL_addBoat_13
      · replace hE := it_f hE c3
        exact absurd hE (fun h9 => nomatch h9)
  · replace hE := it_t hE hk0
    have hE := Option.some.inj hE
    obtain ⟨qq0, hE⟩ := Prod.mk.inj hE
    obtain ⟨qq1, hE⟩ := Prod.mk.inj hE
    obtain ⟨qq2, qq3⟩ := Prod.mk.inj hE
    exact ei hx hb hr hlocks hK hP hD hS qq0 (by rw [qq1, qq2, qq3]) dL_addBoat_5
