/-- L_setCatch -/
def f_L_setCatch (x1 x2 : Int32) (imT : Mem) (imdP : Mem) (indP : MemL) (imdS : Mem) (imdB : Mem) (imdO : Mem) (imdR : Mem) (imdA : Mem) (indA : MemL) (imP : Mem) (inP : MemL) (imS : Mem) (imB : Mem) (imO : Mem) (imR : Mem) (imA : Mem) (inA : MemL) (imH : Mem) (ihs : (Nat → PSt)) : Option (Int32 × Mem × Mem × (Nat → PSt)) := bd5 (f_X8_setCatch x1 x2 imT imdP indP imdS imdB imdO imdR imdA indA imP inP imS imB imO imR imA inA imH ihs) fun k0 r0 mB0 mH0 hs0 => (if k0 = 0 then some (r0, mB0, mH0, hs0) else if k0 = 1 then some ((-2000001 : Int32), mB0, mH0, hs0) else if k0 = 2 then some ((-2000002 : Int32), mB0, mH0, hs0) else none)
/-- L_order -/
def f_L_order (x1 x2 x3 x4 : Int32) (imT : Mem) (imdP : Mem) (indP : MemL) (imdS : Mem) (imdB : Mem) (imdO : Mem) (imdR : Mem) (imdA : Mem) (indA : MemL) (imP : Mem) (inP : MemL) (imS : Mem) (imB : Mem) (imO : Mem) (imR : Mem) (imA : Mem) (inA : MemL) (imH : Mem) (ihs : (Nat → PSt)) : Option (Int32 × Mem × Mem × (Nat → PSt)) := bd5 (f_X8_order x1 x2 x3 x4 imT imdP indP imdS imdB imdO imdR imdA indA imP inP imS imB imO imR imA inA imH ihs) fun k0 r0 mO0 mH0 hs0 => (if k0 = 0 then some (r0, mO0, mH0, hs0) else if k0 = 1 then some ((-2000001 : Int32), mO0, mH0, hs0) else if k0 = 2 then some ((-2000002 : Int32), mO0, mH0, hs0) else if k0 = 3 then some ((-2000003 : Int32), mO0, mH0, hs0) else none)
/-- L_cancel -/
def f_L_cancel (x1 : Int32) (imT : Mem) (imdP : Mem) (indP : MemL) (imdS : Mem) (imdB : Mem) (imdO : Mem) (imdR : Mem) (imdA : Mem) (indA : MemL) (imP : Mem) (inP : MemL) (imS : Mem) (imB : Mem) (imO : Mem) (imR : Mem) (imA : Mem) (inA : MemL) (imH : Mem) (ihs : (Nat → PSt)) : Option (Int32 × Mem × Mem × (Nat → PSt)) := bd5 (f_X8_cancel x1 imT imdP indP imdS imdB imdO imdR imdA indA imP inP imS imB imO imR imA inA imH ihs) fun k0 r0 mO0 mH0 hs0 => (if k0 = 0 then some (r0, mO0, mH0, hs0) else if k0 = 1 then some ((-2000001 : Int32), mO0, mH0, hs0) else if k0 = 3 then some ((-2000003 : Int32), mO0, mH0, hs0) else none)
/-- L_pay -/
def f_L_pay (x1 x2 : Int32) (imT : Mem) (imdP : Mem) (indP : MemL) (imdS : Mem) (imdB : Mem) (imdO : Mem) (imdR : Mem) (imdA : Mem) (indA : MemL) (imP : Mem) (inP : MemL) (imS : Mem) (imB : Mem) (imO : Mem) (imR : Mem) (imA : Mem) (inA : MemL) (imH : Mem) (ihs : (Nat → PSt)) : Option (Int32 × MemL × Mem × Mem × (Nat → PSt)) := bd6 (f_X8_pay x1 x2 imT imdP indP imdS imdB imdO imdR imdA indA imP inP imS imB imO imR imA inA imH ihs) fun k0 r0 nP0 mB0 mH0 hs0 => (if k0 = 0 then some (r0, nP0, mB0, mH0, hs0) else if k0 = 1 then some ((-2000001 : Int32), nP0, mB0, mH0, hs0) else if k0 = 2 then some ((-2000002 : Int32), nP0, mB0, mH0, hs0) else if k0 = 3 then some ((-2000003 : Int32), nP0, mB0, mH0, hs0) else none)
/-- L_silo_N -/
def f_L_silo_N (x1 x2 : Int32) (imT : Mem) (imdP : Mem) (indP : MemL) (imdS : Mem) (imdB : Mem) (imdO : Mem) (imdR : Mem) (imdA : Mem) (indA : MemL) (imP : Mem) (inP : MemL) (imS : Mem) (imB : Mem) (imO : Mem) (imR : Mem) (imA : Mem) (inA : MemL) (imH : Mem) (ihs : (Nat → PSt)) : Option (Int32) := f_X8_silo_N x1 x2 imT imdP indP imdS imdB imdO imdR imdA indA imP inP imS imB imO imR imA inA imH ihs
/-- L_boat_N -/
def f_L_boat_N (x1 x2 : Int32) (imT : Mem) (imdP : Mem) (indP : MemL) (imdS : Mem) (imdB : Mem) (imdO : Mem) (imdR : Mem) (imdA : Mem) (indA : MemL) (imP : Mem) (inP : MemL) (imS : Mem) (imB : Mem) (imO : Mem) (imR : Mem) (imA : Mem) (inA : MemL) (imH : Mem) (ihs : (Nat → PSt)) : Option (Int32) := f_X8_boat_N x1 x2 imT imdP indP imdS imdB imdO imdR imdA indA imP inP imS imB imO imR imA inA imH ihs
/-- L_orderProperty -/
def f_L_orderProperty (x1 x2 : Int32) (imT : Mem) (imdP : Mem) (indP : MemL) (imdS : Mem) (imdB : Mem) (imdO : Mem) (imdR : Mem) (imdA : Mem) (indA : MemL) (imP : Mem) (inP : MemL) (imS : Mem) (imB : Mem) (imO : Mem) (imR : Mem) (imA : Mem) (inA : MemL) (imH : Mem) (ihs : (Nat → PSt)) : Option (Int32) := bd2 (f_X8_orderProperty x1 x2 imT imdP indP imdS imdB imdO imdR imdA indA imP inP imS imB imO imR imA inA imH ihs) fun k0 r0 => (if k0 = 0 then some r0 else if k0 = 1 then some (-2000001 : Int32) else if k0 = 2 then some (-2000002 : Int32) else none)
/-- L_receipt -/
def f_L_receipt (x1 x2 : Int32) (imT : Mem) (imdP : Mem) (indP : MemL) (imdS : Mem) (imdB : Mem) (imdO : Mem) (imdR : Mem) (imdA : Mem) (indA : MemL) (imP : Mem) (inP : MemL) (imS : Mem) (imB : Mem) (imO : Mem) (imR : Mem) (imA : Mem) (inA : MemL) (imH : Mem) (ihs : (Nat → PSt)) : Option (Int32) := bd2 (f_X8_receipt x1 x2 imT imdP indP imdS imdB imdO imdR imdA indA imP inP imS imB imO imR imA inA imH ihs) fun k0 r0 => (if k0 = 0 then some r0 else if k0 = 1 then some (-2000001 : Int32) else if k0 = 2 then some (-2000002 : Int32) else none)
abbrev rm_L_setCatch : Room := { frames := 8, cells := 1, slots := 6, locals := 125 }
set_option maxHeartbeats 40000000 in
set_option maxRecDepth 100000 in
theorem c_L_setCatch (l : Launch) (hst : l.stackTraces = false) (D : va_G) (cy : Nat → Nat) (aI aT adP adS adB adO adR adA aP aS aB aO aR aA aH : Nat → Nat) (ah : Nat → Nat → Nat → Nat) (x1 x2 : Int32) (imT : Mem) (imdP : Mem) (indP : MemL) (imdS : Mem) (imdB : Mem) (imdO : Mem) (imdR : Mem) (imdA : Mem) (indA : MemL) (imP : Mem) (inP : MemL) (imS : Mem) (imB : Mem) (imO : Mem) (imR : Mem) (imA : Mem) (inA : MemL) (imH : Mem) (ihs : (Nat → PSt)) (r' : Int32) (mB' : Mem) (mH' : Mem) (hs' : (Nat → PSt)) (hE : f_L_setCatch x1 x2 imT imdP indP imdS imdB imdO imdR imdA indA imP inP imS imB imO imR imA inA imH ihs = some (r', mB', mH', hs')) : CH l yL_setCatch wsL_setCatch rm_L_setCatch D cy [.ref (aI 0), .int x1, .int x2] (W_All cy aI aT adP adS adB adO adR adA aP aS aB aO aR aA aH ah imT imdP indP imdS imdB imdO imdR imdA indA imP inP imS imB imO imR imA inA imH ihs) 1 6 (QI D cy r' (W_All cy aI aT adP adS adB adO adR adA aP aS aB aO aR aA aH ah imT imdP indP imdS imdB imdO imdR imdA indA imP inP imS mB' imO imR imA inA mH' hs')) := by
  refine CH_of (cc := cL_setCatch) (maxL := 4) (ret := (some .int)) (hh := [(0, 6, 7, 25), (0, 6, 11, 15)]) (by decide) rfl (Nat.le_of_ble_eq_true rfl) (fun p e s m args below meth c A ls hx hb hr hml hlocks hown hts hA htab hK hN hX hP hD hS hl => ?_)
  have hown : s.vm.findClass RL = some m.cls := hown
  have hl : lv_has ls 4 [(0, .ref (aI 0)), (1, .int x1), (2, .int x2)] := hl
  have hC : CallFix p m c cL_setCatch 4 s args wsL_setCatch RL := ⟨hx, hb, hml, hown, hts⟩
  unfold f_L_setCatch at hE
  obtain ⟨k0, r0, mB0, mH0, hs0, hc, hE⟩ := bd5_el hE
  refine lv_aload_n hx hb dL_setCatch_0 rfl (lv_at hl 0 rfl) ?_
  refine lv_iload_n hx hb dL_setCatch_1 rfl (lv_at hl 1 rfl) ?_
  refine lv_iload_n hx hb dL_setCatch_2 rfl (lv_at hl 2 rfl) ?_
  refine kxi (X := []) (Y := []) (ws1 := (W_All cy aI aT adP adS adB adO adR adA aP aS aB aO aR aA aH ah imT imdP indP imdS imdB imdO imdR imdA indA imP inP imS mB0 imO imR imA inA mH0 hs0)) (xV (X := []) (Y := []) (As := [.int x1, .int x2]) (rest := []) hC (c_X8_setCatch l hst D cy aI aT adP adS adB adO adR adA aP aS aB aO aR aA aH ah x1 x2 imT imdP indP imdS imdB imdO imdR imdA indA imP inP imS imB imO imR imA inA imH ihs k0 r0 mB0 mH0 hs0 hc) (cwV 2 hts gL_setCatch_X8_setCatch rfl rfl rfl cd_X8_setCatch ⟨Nat.le_of_ble_eq_true rfl, Nat.le_of_ble_eq_true rfl⟩) hK hN hP hD hS hA rfl 0 8 rfl rfl rfl hl.1 rfl (lv_room (Nat.le_of_ble_eq_true rfl)) dL_setCatch_3 ⟨Nat.le_of_ble_eq_true rfl, Nat.le_of_ble_eq_true rfl⟩) hP hD hS hA rfl (fst_All cy aI aT adP adS adB adO adR adA aP aS aB aO aR aA aH ah imT imdP indP imdS imdB imdO imdR imdA indA imP inP imS imB imO imR imA inA imH ihs imT imdP indP imdS imdB imdO imdR imdA indA imP inP imS mB0 imO imR imA inA mH0 hs0) rfl (fun hk0 H locs ce q9 hP hD hS hce hcv hcl => ?_) (fun hk0 H locs hP hD hS => ?_)
  · replace hE := it_f hE hk0
    by_cases c1 : k0 = 1
    · replace hE := it_t hE c1
      have hE := Option.some.inj hE
      obtain ⟨qq0, hE⟩ := Prod.mk.inj hE
      obtain ⟨qq1, hE⟩ := Prod.mk.inj hE
      obtain ⟨qq2, qq3⟩ := Prod.mk.inj hE
      rw [c1] at hcl
      refine kc (k := 1) (pre := []) (suf := [⟨0, 6, 11, 15⟩]) hown ⟨0, 6, 7, 25⟩ htab hX (by decide) (by decide) (fun z hz => absurd hz List.not_mem_nil) rfl (by decide) (hts _ (mC qg_L_25)) hce hcv hcl ?_
      refine W.eq (g2 := F0 m 7 ls [.ref q9]) rfl ?_
      refine lv_astore_n (lv' := [(3, .ref q9), (0, .ref (aI 0)), (1, .int x1), (2, .int x2)]) hx hb dL_setCatch_7 rfl hl (by decide) rfl (fun ls hl => ?_)
      have kq : (Cond.constant RL 27 (-2000001)).before args s = true := hts _ (mC qk_L_27)
      refine lv_ldc hx hb hown kq dL_setCatch_8 ?_
      exact ei hx hb hr hlocks hK hP hD hS qq0 (by rw [qq1, qq2, qq3]) dL_setCatch_10
    · replace hE := it_f hE c1
      by_cases c2 : k0 = 2
      · replace hE := it_t hE c2
        have hE := Option.some.inj hE
        obtain ⟨qq0, hE⟩ := Prod.mk.inj hE
        obtain ⟨qq1, hE⟩ := Prod.mk.inj hE
        obtain ⟨qq2, qq3⟩ := Prod.mk.inj hE
        rw [c2] at hcl
        refine kc (k := 2) (pre := [⟨0, 6, 7, 25⟩]) (suf := []) hown ⟨0, 6, 11, 15⟩ htab hX (by decide) (by decide) (fun z hz => by
        rcases List.mem_singleton.mp hz with rfl
        · exact ⟨by decide, 1, by decide, by decide, by decide, hts _ (mC qg_L_25)⟩) rfl (by decide) (hts _ (mC qg_L_15)) hce hcv hcl ?_
        refine W.eq (g2 := F0 m 11 ls [.ref q9]) rfl ?_
        refine lv_astore_n (lv' := [(3, .ref q9), (0, .ref (aI 0)), (1, .int x1), (2, .int x2)]) hx hb dL_setCatch_11 rfl hl (by decide) rfl (fun ls hl => ?_)
        have kq : (Cond.constant RL 17 (-2000002)).before args s = true := hts _ (mC qk_L_17)
        refine lv_ldc hx hb hown kq dL_setCatch_12 ?_
        exact ei hx hb hr hlocks hK hP hD hS qq0 (by rw [qq1, qq2, qq3]) dL_setCatch_14
      · replace hE := it_f hE c2
        exact absurd hE (fun h9 => nomatch h9)
  · replace hE := it_t hE hk0
    have hE := Option.some.inj hE
    obtain ⟨qq0, hE⟩ := Prod.mk.inj hE
    obtain ⟨qq1, hE⟩ := Prod.mk.inj hE
    obtain ⟨qq2, qq3⟩ := Prod.mk.inj hE
    exact ei hx hb hr hlocks hK hP hD hS qq0 (by rw [qq1, qq2, qq3]) dL_setCatch_6
abbrev rm_L_order : Room := { frames := 8, cells := 1, slots := 6, locals := 127 }
set_option maxHeartbeats 40000000 in
set_option maxRecDepth 100000 in
theorem c_L_order (l : Launch) (hst : l.stackTraces = false) (D : va_G) (cy : Nat → Nat) (aI aT adP adS adB adO adR adA aP aS aB aO aR aA aH : Nat → Nat) (ah : Nat → Nat → Nat → Nat) (x1 x2 x3 x4 : Int32) (imT : Mem) (imdP : Mem) (indP : MemL) (imdS : Mem) (imdB : Mem) (imdO : Mem) (imdR : Mem) (imdA : Mem) (indA : MemL) (imP : Mem) (inP : MemL) (imS : Mem) (imB : Mem) (imO : Mem) (imR : Mem) (imA : Mem) (inA : MemL) (imH : Mem) (ihs : (Nat → PSt)) (r' : Int32) (mO' : Mem) (mH' : Mem) (hs' : (Nat → PSt)) (hE : f_L_order x1 x2 x3 x4 imT imdP indP imdS imdB imdO imdR imdA indA imP inP imS imB imO imR imA inA imH ihs = some (r', mO', mH', hs')) : CH l yL_order wsL_order rm_L_order D cy [.ref (aI 0), .int x1, .int x2, .int x3, .int x4] (W_All cy aI aT adP adS adB adO adR adA aP aS aB aO aR aA aH ah imT imdP indP imdS imdB imdO imdR imdA indA imP inP imS imB imO imR imA inA imH ihs) 1 6 (QI D cy r' (W_All cy aI aT adP adS adB adO adR adA aP aS aB aO aR aA aH ah imT imdP indP imdS imdB imdO imdR imdA indA imP inP imS imB mO' imR imA inA mH' hs')) := by
  refine CH_of (cc := cL_order) (maxL := 6) (ret := (some .int)) (hh := [(0, 9, 10, 25), (0, 9, 15, 15), (0, 9, 20, 18)]) (by decide) rfl (Nat.le_of_ble_eq_true rfl) (fun p e s m args below meth c A ls hx hb hr hml hlocks hown hts hA htab hK hN hX hP hD hS hl => ?_)
  have hown : s.vm.findClass RL = some m.cls := hown
  have hl : lv_has ls 6 [(0, .ref (aI 0)), (1, .int x1), (2, .int x2), (3, .int x3), (4, .int x4)] := hl
  have hC : CallFix p m c cL_order 6 s args wsL_order RL := ⟨hx, hb, hml, hown, hts⟩
  unfold f_L_order at hE
  obtain ⟨k0, r0, mO0, mH0, hs0, hc, hE⟩ := bd5_el hE
  refine lv_aload_n hx hb dL_order_0 rfl (lv_at hl 0 rfl) ?_
  refine lv_iload_n hx hb dL_order_1 rfl (lv_at hl 1 rfl) ?_
  refine lv_iload_n hx hb dL_order_2 rfl (lv_at hl 2 rfl) ?_
  refine lv_iload_n hx hb dL_order_3 rfl (lv_at hl 3 rfl) ?_
  refine lv_iload hx hb dL_order_4 (lv_at hl 4 rfl) ?_
  refine kxi (X := []) (Y := []) (ws1 := (W_All cy aI aT adP adS adB adO adR adA aP aS aB aO aR aA aH ah imT imdP indP imdS imdB imdO imdR imdA indA imP inP imS imB mO0 imR imA inA mH0 hs0)) (xV (X := []) (Y := []) (As := [.int x1, .int x2, .int x3, .int x4]) (rest := []) hC (c_X8_order l hst D cy aI aT adP adS adB adO adR adA aP aS aB aO aR aA aH ah x1 x2 x3 x4 imT imdP indP imdS imdB imdO imdR imdA indA imP inP imS imB imO imR imA inA imH ihs k0 r0 mO0 mH0 hs0 hc) (cwV 4 hts gL_order_X8_order rfl rfl rfl cd_X8_order ⟨Nat.le_of_ble_eq_true rfl, Nat.le_of_ble_eq_true rfl⟩) hK hN hP hD hS hA rfl 0 8 rfl rfl rfl hl.1 rfl (lv_room (Nat.le_of_ble_eq_true rfl)) dL_order_6 ⟨Nat.le_of_ble_eq_true rfl, Nat.le_of_ble_eq_true rfl⟩) hP hD hS hA rfl (fst_All cy aI aT adP adS adB adO adR adA aP aS aB aO aR aA aH ah imT imdP indP imdS imdB imdO imdR imdA indA imP inP imS imB imO imR imA inA imH ihs imT imdP indP imdS imdB imdO imdR imdA indA imP inP imS imB mO0 imR imA inA mH0 hs0) rfl (fun hk0 H locs ce q9 hP hD hS hce hcv hcl => ?_) (fun hk0 H locs hP hD hS => ?_)
  · replace hE := it_f hE hk0
    by_cases c1 : k0 = 1
    · replace hE := it_t hE c1
      have hE := Option.some.inj hE
      obtain ⟨qq0, hE⟩ := Prod.mk.inj hE
      obtain ⟨qq1, hE⟩ := Prod.mk.inj hE
      obtain ⟨qq2, qq3⟩ := Prod.mk.inj hE
      rw [c1] at hcl
      refine kc (k := 1) (pre := []) (suf := [⟨0, 9, 15, 15⟩, ⟨0, 9, 20, 18⟩]) hown ⟨0, 9, 10, 25⟩ htab hX (by decide) (by decide) (fun z hz => absurd hz List.not_mem_nil) rfl (by decide) (hts _ (mC qg_L_25)) hce hcv hcl ?_
      refine W.eq (g2 := F0 m 10 ls [.ref q9]) rfl ?_
      refine lv_astore (lv' := [(5, .ref q9), (0, .ref (aI 0)), (1, .int x1), (2, .int x2), (3, .int x3), (4, .int x4)]) hx hb dL_order_10 hl (by decide) rfl (fun ls hl => ?_)
      have kq : (Cond.constant RL 27 (-2000001)).before args s = true := hts _ (mC qk_L_27)
      refine lv_ldc hx hb hown kq dL_order_12 ?_
      exact ei hx hb hr hlocks hK hP hD hS qq0 (by rw [qq1, qq2, qq3]) dL_order_14
    · replace hE := it_f hE c1
      by_cases c2 : k0 = 2
      · replace hE := it_t hE c2
        have hE := Option.some.inj hE
        obtain ⟨qq0, hE⟩ := Prod.mk.inj hE
        obtain ⟨qq1, hE⟩ := Prod.mk.inj hE
        obtain ⟨qq2, qq3⟩ := Prod.mk.inj hE
        rw [c2] at hcl
        refine kc (k := 2) (pre := [⟨0, 9, 10, 25⟩]) (suf := [⟨0, 9, 20, 18⟩]) hown ⟨0, 9, 15, 15⟩ htab hX (by decide) (by decide) (fun z hz => by
        rcases List.mem_singleton.mp hz with rfl
        · exact ⟨by decide, 1, by decide, by decide, by decide, hts _ (mC qg_L_25)⟩) rfl (by decide) (hts _ (mC qg_L_15)) hce hcv hcl ?_
        refine W.eq (g2 := F0 m 15 ls [.ref q9]) rfl ?_
        refine lv_astore (lv' := [(5, .ref q9), (0, .ref (aI 0)), (1, .int x1), (2, .int x2), (3, .int x3), (4, .int x4)]) hx hb dL_order_15 hl (by decide) rfl (fun ls hl => ?_)
        have kq : (Cond.constant RL 17 (-2000002)).before args s = true := hts _ (mC qk_L_17)
        refine lv_ldc hx hb hown kq dL_order_17 ?_
        exact ei hx hb hr hlocks hK hP hD hS qq0 (by rw [qq1, qq2, qq3]) dL_order_19
      · replace hE := it_f hE c2
        by_cases c3 : k0 = 3
        · replace hE := it_t hE c3
          have hE := Option.some.inj hE
          obtain ⟨qq0, hE⟩ := Prod.mk.inj hE
          obtain ⟨qq1, hE⟩ := Prod.mk.inj hE
          obtain ⟨qq2, qq3⟩ := Prod.mk.inj hE
          rw [c3] at hcl
          refine kc (k := 3) (pre := [⟨0, 9, 10, 25⟩, ⟨0, 9, 15, 15⟩]) (suf := []) hown ⟨0, 9, 20, 18⟩ htab hX (by decide) (by decide) (fun z hz => by
          rcases List.mem_cons.mp hz with rfl | hz
          · exact ⟨by decide, 1, by decide, by decide, by decide, hts _ (mC qg_L_25)⟩
          · rcases List.mem_singleton.mp hz with rfl
            exact ⟨by decide, 2, by decide, by decide, by decide, hts _ (mC qg_L_15)⟩) rfl (by decide) (hts _ (mC qg_L_18)) hce hcv hcl ?_
          refine W.eq (g2 := F0 m 20 ls [.ref q9]) rfl ?_
          refine lv_astore (lv' := [(5, .ref q9), (0, .ref (aI 0)), (1, .int x1), (2, .int x2), (3, .int x3), (4, .int x4)]) hx hb dL_order_20 hl (by decide) rfl (fun ls hl => ?_)
          have kq : (Cond.constant RL 20 (-2000003)).before args s = true := hts _ (mC qk_L_20)
          refine lv_ldc hx hb hown kq dL_order_22 ?_
          exact ei hx hb hr hlocks hK hP hD hS qq0 (by rw [qq1, qq2, qq3]) dL_order_24
        · replace hE := it_f hE c3
          exact absurd hE (fun h9 => nomatch h9)
  · replace hE := it_t hE hk0
    have hE := Option.some.inj hE
    obtain ⟨qq0, hE⟩ := Prod.mk.inj hE
    obtain ⟨qq1, hE⟩ := Prod.mk.inj hE
    obtain ⟨qq2, qq3⟩ := Prod.mk.inj hE
    exact ei hx hb hr hlocks hK hP hD hS qq0 (by rw [qq1, qq2, qq3]) dL_order_9
abbrev rm_L_cancel : Room := { frames := 9, cells := 2, slots := 12, locals := 143 }
set_option maxHeartbeats 40000000 in
set_option maxRecDepth 100000 in
theorem c_L_cancel (l : Launch) (hst : l.stackTraces = false) (D : va_G) (cy : Nat → Nat) (aI aT adP adS adB adO adR adA aP aS aB aO aR aA aH : Nat → Nat) (ah : Nat → Nat → Nat → Nat) (x1 : Int32) (imT : Mem) (imdP : Mem) (indP : MemL) (imdS : Mem) (imdB : Mem) (imdO : Mem) (imdR : Mem) (imdA : Mem) (indA : MemL) (imP : Mem) (inP : MemL) (imS : Mem) (imB : Mem) (imO : Mem) (imR : Mem) (imA : Mem) (inA : MemL) (imH : Mem) (ihs : (Nat → PSt)) (r' : Int32) (mO' : Mem) (mH' : Mem) (hs' : (Nat → PSt)) (hE : f_L_cancel x1 imT imdP indP imdS imdB imdO imdR imdA indA imP inP imS imB imO imR imA inA imH ihs = some (r', mO', mH', hs')) : CH l yL_cancel wsL_cancel rm_L_cancel D cy [.ref (aI 0), .int x1] (W_All cy aI aT adP adS adB adO adR adA aP aS aB aO aR aA aH ah imT imdP indP imdS imdB imdO imdR imdA indA imP inP imS imB imO imR imA inA imH ihs) 2 12 (QI D cy r' (W_All cy aI aT adP adS adB adO adR adA aP aS aB aO aR aA aH ah imT imdP indP imdS imdB imdO imdR imdA indA imP inP imS imB mO' imR imA inA mH' hs')) := by
  refine CH_of (cc := cL_cancel) (maxL := 3) (ret := (some .int)) (hh := [(0, 5, 6, 25), (0, 5, 10, 18)]) (by decide) rfl (Nat.le_of_ble_eq_true rfl) (fun p e s m args below meth c A ls hx hb hr hml hlocks hown hts hA htab hK hN hX hP hD hS hl => ?_)
  have hown : s.vm.findClass RL = some m.cls := hown
  have hl : lv_has ls 3 [(0, .ref (aI 0)), (1, .int x1)] := hl
  have hC : CallFix p m c cL_cancel 3 s args wsL_cancel RL := ⟨hx, hb, hml, hown, hts⟩
  unfold f_L_cancel at hE
  obtain ⟨k0, r0, mO0, mH0, hs0, hc, hE⟩ := bd5_el hE
  refine lv_aload_n hx hb dL_cancel_0 rfl (lv_at hl 0 rfl) ?_
  refine lv_iload_n hx hb dL_cancel_1 rfl (lv_at hl 1 rfl) ?_
  refine kxi (X := []) (Y := []) (ws1 := (W_All cy aI aT adP adS adB adO adR adA aP aS aB aO aR aA aH ah imT imdP indP imdS imdB imdO imdR imdA indA imP inP imS imB mO0 imR imA inA mH0 hs0)) (xV (X := []) (Y := []) (As := [.int x1]) (rest := []) hC (c_X8_cancel l hst D cy aI aT adP adS adB adO adR adA aP aS aB aO aR aA aH ah x1 imT imdP indP imdS imdB imdO imdR imdA indA imP inP imS imB imO imR imA inA imH ihs k0 r0 mO0 mH0 hs0 hc) (cwV 1 hts gL_cancel_X8_cancel rfl rfl rfl cd_X8_cancel ⟨Nat.le_of_ble_eq_true rfl, Nat.le_of_ble_eq_true rfl⟩) hK hN hP hD hS hA rfl 0 8 rfl rfl rfl hl.1 rfl (lv_room (Nat.le_of_ble_eq_true rfl)) dL_cancel_2 ⟨Nat.le_of_ble_eq_true rfl, Nat.le_of_ble_eq_true rfl⟩) hP hD hS hA rfl (fst_All cy aI aT adP adS adB adO adR adA aP aS aB aO aR aA aH ah imT imdP indP imdS imdB imdO imdR imdA indA imP inP imS imB imO imR imA inA imH ihs imT imdP indP imdS imdB imdO imdR imdA indA imP inP imS imB mO0 imR imA inA mH0 hs0) rfl (fun hk0 H locs ce q9 hP hD hS hce hcv hcl => ?_) (fun hk0 H locs hP hD hS => ?_)
  · replace hE := it_f hE hk0
    by_cases c1 : k0 = 1
    · replace hE := it_t hE c1
      have hE := Option.some.inj hE
      obtain ⟨qq0, hE⟩ := Prod.mk.inj hE
      obtain ⟨qq1, hE⟩ := Prod.mk.inj hE
      obtain ⟨qq2, qq3⟩ := Prod.mk.inj hE
      rw [c1] at hcl
      refine kc (k := 1) (pre := []) (suf := [⟨0, 5, 10, 18⟩]) hown ⟨0, 5, 6, 25⟩ htab hX (by decide) (by decide) (fun z hz => absurd hz List.not_mem_nil) rfl (by decide) (hts _ (mC qg_L_25)) hce hcv hcl ?_
      refine W.eq (g2 := F0 m 6 ls [.ref q9]) rfl ?_
      refine lv_astore_n (lv' := [(2, .ref q9), (0, .ref (aI 0)), (1, .int x1)]) hx hb dL_cancel_6 rfl hl (by decide) rfl (fun ls hl => ?_)
      have kq : (Cond.constant RL 27 (-2000001)).before args s = true := hts _ (mC qk_L_27)
      refine lv_ldc hx hb hown kq dL_cancel_7 ?_
      exact ei hx hb hr hlocks hK hP hD hS qq0 (by rw [qq1, qq2, qq3]) dL_cancel_9
    · replace hE := it_f hE c1
      by_cases c3 : k0 = 3
      · replace hE := it_t hE c3
        have hE := Option.some.inj hE
        obtain ⟨qq0, hE⟩ := Prod.mk.inj hE
        obtain ⟨qq1, hE⟩ := Prod.mk.inj hE
        obtain ⟨qq2, qq3⟩ := Prod.mk.inj hE
        rw [c3] at hcl
        refine kc (k := 3) (pre := [⟨0, 5, 6, 25⟩]) (suf := []) hown ⟨0, 5, 10, 18⟩ htab hX (by decide) (by decide) (fun z hz => by
        rcases List.mem_singleton.mp hz with rfl
        · exact ⟨by decide, 1, by decide, by decide, by decide, hts _ (mC qg_L_25)⟩) rfl (by decide) (hts _ (mC qg_L_18)) hce hcv hcl ?_
        refine W.eq (g2 := F0 m 10 ls [.ref q9]) rfl ?_
        refine lv_astore_n (lv' := [(2, .ref q9), (0, .ref (aI 0)), (1, .int x1)]) hx hb dL_cancel_10 rfl hl (by decide) rfl (fun ls hl => ?_)
        have kq : (Cond.constant RL 20 (-2000003)).before args s = true := hts _ (mC qk_L_20)
        refine lv_ldc hx hb hown kq dL_cancel_11 ?_
        exact ei hx hb hr hlocks hK hP hD hS qq0 (by rw [qq1, qq2, qq3]) dL_cancel_13
      · replace hE := it_f hE c3
        exact absurd hE (fun h9 => nomatch h9)
  · replace hE := it_t hE hk0
    have hE := Option.some.inj hE
    obtain ⟨qq0, hE⟩ := Prod.mk.inj hE
    obtain ⟨qq1, hE⟩ := Prod.mk.inj hE
    obtain ⟨qq2, qq3⟩ := Prod.mk.inj hE
    exact ei hx hb hr hlocks hK hP hD hS qq0 (by rw [qq1, qq2, qq3]) dL_cancel_5
abbrev rm_L_pay : Room := { frames := 8, cells := 1, slots := 6, locals := 125 }
set_option maxHeartbeats 40000000 in
set_option maxRecDepth 100000 in
theorem c_L_pay (l : Launch) (hst : l.stackTraces = false) (D : va_G) (cy : Nat → Nat) (aI aT adP adS adB adO adR adA aP aS aB aO aR aA aH : Nat → Nat) (ah : Nat → Nat → Nat → Nat) (x1 x2 : Int32) (imT : Mem) (imdP : Mem) (indP : MemL) (imdS : Mem) (imdB : Mem) (imdO : Mem) (imdR : Mem) (imdA : Mem) (indA : MemL) (imP : Mem) (inP : MemL) (imS : Mem) (imB : Mem) (imO : Mem) (imR : Mem) (imA : Mem) (inA : MemL) (imH : Mem) (ihs : (Nat → PSt)) (r' : Int32) (nP' : MemL) (mB' : Mem) (mH' : Mem) (hs' : (Nat → PSt)) (hE : f_L_pay x1 x2 imT imdP indP imdS imdB imdO imdR imdA indA imP inP imS imB imO imR imA inA imH ihs = some (r', nP', mB', mH', hs')) : CH l yL_pay wsL_pay rm_L_pay D cy [.ref (aI 0), .int x1, .int x2] (W_All cy aI aT adP adS adB adO adR adA aP aS aB aO aR aA aH ah imT imdP indP imdS imdB imdO imdR imdA indA imP inP imS imB imO imR imA inA imH ihs) 1 6 (QI D cy r' (W_All cy aI aT adP adS adB adO adR adA aP aS aB aO aR aA aH ah imT imdP indP imdS imdB imdO imdR imdA indA imP nP' imS mB' imO imR imA inA mH' hs')) := by
  refine CH_of (cc := cL_pay) (maxL := 4) (ret := (some .int)) (hh := [(0, 6, 7, 25), (0, 6, 11, 15), (0, 6, 15, 18)]) (by decide) rfl (Nat.le_of_ble_eq_true rfl) (fun p e s m args below meth c A ls hx hb hr hml hlocks hown hts hA htab hK hN hX hP hD hS hl => ?_)
  have hown : s.vm.findClass RL = some m.cls := hown
  have hl : lv_has ls 4 [(0, .ref (aI 0)), (1, .int x1), (2, .int x2)] := hl
  have hC : CallFix p m c cL_pay 4 s args wsL_pay RL := ⟨hx, hb, hml, hown, hts⟩
  unfold f_L_pay at hE
  obtain ⟨k0, r0, nP0, mB0, mH0, hs0, hc, hE⟩ := bd6_el hE
  refine lv_aload_n hx hb dL_pay_0 rfl (lv_at hl 0 rfl) ?_
  refine lv_iload_n hx hb dL_pay_1 rfl (lv_at hl 1 rfl) ?_
  refine lv_iload_n hx hb dL_pay_2 rfl (lv_at hl 2 rfl) ?_
  refine kxi (X := []) (Y := []) (ws1 := (W_All cy aI aT adP adS adB adO adR adA aP aS aB aO aR aA aH ah imT imdP indP imdS imdB imdO imdR imdA indA imP nP0 imS mB0 imO imR imA inA mH0 hs0)) (xV (X := []) (Y := []) (As := [.int x1, .int x2]) (rest := []) hC (c_X8_pay l hst D cy aI aT adP adS adB adO adR adA aP aS aB aO aR aA aH ah x1 x2 imT imdP indP imdS imdB imdO imdR imdA indA imP inP imS imB imO imR imA inA imH ihs k0 r0 nP0 mB0 mH0 hs0 hc) (cwV 2 hts gL_pay_X8_pay rfl rfl rfl cd_X8_pay ⟨Nat.le_of_ble_eq_true rfl, Nat.le_of_ble_eq_true rfl⟩) hK hN hP hD hS hA rfl 0 8 rfl rfl rfl hl.1 rfl (lv_room (Nat.le_of_ble_eq_true rfl)) dL_pay_3 ⟨Nat.le_of_ble_eq_true rfl, Nat.le_of_ble_eq_true rfl⟩) hP hD hS hA rfl (fst_All cy aI aT adP adS adB adO adR adA aP aS aB aO aR aA aH ah imT imdP indP imdS imdB imdO imdR imdA indA imP inP imS imB imO imR imA inA imH ihs imT imdP indP imdS imdB imdO imdR imdA indA imP nP0 imS mB0 imO imR imA inA mH0 hs0) rfl (fun hk0 H locs ce q9 hP hD hS hce hcv hcl => ?_) (fun hk0 H locs hP hD hS => ?_)
  · replace hE := it_f hE hk0
    by_cases c1 : k0 = 1
    · replace hE := it_t hE c1
      have hE := Option.some.inj hE
      obtain ⟨qq0, hE⟩ := Prod.mk.inj hE
      obtain ⟨qq1, hE⟩ := Prod.mk.inj hE
      obtain ⟨qq2, hE⟩ := Prod.mk.inj hE
      obtain ⟨qq3, qq4⟩ := Prod.mk.inj hE
      rw [c1] at hcl
      refine kc (k := 1) (pre := []) (suf := [⟨0, 6, 11, 15⟩, ⟨0, 6, 15, 18⟩]) hown ⟨0, 6, 7, 25⟩ htab hX (by decide) (by decide) (fun z hz => absurd hz List.not_mem_nil) rfl (by decide) (hts _ (mC qg_L_25)) hce hcv hcl ?_
      refine W.eq (g2 := F0 m 7 ls [.ref q9]) rfl ?_
      refine lv_astore_n (lv' := [(3, .ref q9), (0, .ref (aI 0)), (1, .int x1), (2, .int x2)]) hx hb dL_pay_7 rfl hl (by decide) rfl (fun ls hl => ?_)
      have kq : (Cond.constant RL 27 (-2000001)).before args s = true := hts _ (mC qk_L_27)
      refine lv_ldc hx hb hown kq dL_pay_8 ?_
      exact ei hx hb hr hlocks hK hP hD hS qq0 (by rw [qq1, qq2, qq3, qq4]) dL_pay_10
    · replace hE := it_f hE c1
      by_cases c2 : k0 = 2
      · replace hE := it_t hE c2
        have hE := Option.some.inj hE
        obtain ⟨qq0, hE⟩ := Prod.mk.inj hE
        obtain ⟨qq1, hE⟩ := Prod.mk.inj hE
        obtain ⟨qq2, hE⟩ := Prod.mk.inj hE
        obtain ⟨qq3, qq4⟩ := Prod.mk.inj hE
        rw [c2] at hcl
        refine kc (k := 2) (pre := [⟨0, 6, 7, 25⟩]) (suf := [⟨0, 6, 15, 18⟩]) hown ⟨0, 6, 11, 15⟩ htab hX (by decide) (by decide) (fun z hz => by
        rcases List.mem_singleton.mp hz with rfl
        · exact ⟨by decide, 1, by decide, by decide, by decide, hts _ (mC qg_L_25)⟩) rfl (by decide) (hts _ (mC qg_L_15)) hce hcv hcl ?_
        refine W.eq (g2 := F0 m 11 ls [.ref q9]) rfl ?_
        refine lv_astore_n (lv' := [(3, .ref q9), (0, .ref (aI 0)), (1, .int x1), (2, .int x2)]) hx hb dL_pay_11 rfl hl (by decide) rfl (fun ls hl => ?_)
        have kq : (Cond.constant RL 17 (-2000002)).before args s = true := hts _ (mC qk_L_17)
        refine lv_ldc hx hb hown kq dL_pay_12 ?_
        exact ei hx hb hr hlocks hK hP hD hS qq0 (by rw [qq1, qq2, qq3, qq4]) dL_pay_14
      · replace hE := it_f hE c2
        by_cases c3 : k0 = 3
        · replace hE := it_t hE c3
          have hE := Option.some.inj hE
          obtain ⟨qq0, hE⟩ := Prod.mk.inj hE
          obtain ⟨qq1, hE⟩ := Prod.mk.inj hE
          obtain ⟨qq2, hE⟩ := Prod.mk.inj hE
          obtain ⟨qq3, qq4⟩ := Prod.mk.inj hE
          rw [c3] at hcl
          refine kc (k := 3) (pre := [⟨0, 6, 7, 25⟩, ⟨0, 6, 11, 15⟩]) (suf := []) hown ⟨0, 6, 15, 18⟩ htab hX (by decide) (by decide) (fun z hz => by
          rcases List.mem_cons.mp hz with rfl | hz
          · exact ⟨by decide, 1, by decide, by decide, by decide, hts _ (mC qg_L_25)⟩
          · rcases List.mem_singleton.mp hz with rfl
            exact ⟨by decide, 2, by decide, by decide, by decide, hts _ (mC qg_L_15)⟩) rfl (by decide) (hts _ (mC qg_L_18)) hce hcv hcl ?_
          refine W.eq (g2 := F0 m 15 ls [.ref q9]) rfl ?_
          refine lv_astore_n (lv' := [(3, .ref q9), (0, .ref (aI 0)), (1, .int x1), (2, .int x2)]) hx hb dL_pay_15 rfl hl (by decide) rfl (fun ls hl => ?_)
          have kq : (Cond.constant RL 20 (-2000003)).before args s = true := hts _ (mC qk_L_20)
          refine lv_ldc hx hb hown kq dL_pay_16 ?_
          exact ei hx hb hr hlocks hK hP hD hS qq0 (by rw [qq1, qq2, qq3, qq4]) dL_pay_18
        · replace hE := it_f hE c3
          exact absurd hE (fun h9 => nomatch h9)
  · replace hE := it_t hE hk0
    have hE := Option.some.inj hE
    obtain ⟨qq0, hE⟩ := Prod.mk.inj hE
    obtain ⟨qq1, hE⟩ := Prod.mk.inj hE
    obtain ⟨qq2, hE⟩ := Prod.mk.inj hE
    obtain ⟨qq3, qq4⟩ := Prod.mk.inj hE
    exact ei hx hb hr hlocks hK hP hD hS qq0 (by rw [qq1, qq2, qq3, qq4]) dL_pay_6
abbrev rm_L_silo_N : Room := { frames := 3, cells := 0, slots := 0, locals := 71 }
set_option maxHeartbeats 40000000 in
set_option maxRecDepth 100000 in
theorem c_L_silo_N (l : Launch) (D : va_G) (cy : Nat → Nat) (aI aT adP adS adB adO adR adA aP aS aB aO aR aA aH : Nat → Nat) (ah : Nat → Nat → Nat → Nat) (x1 x2 : Int32) (imT : Mem) (imdP : Mem) (indP : MemL) (imdS : Mem) (imdB : Mem) (imdO : Mem) (imdR : Mem) (imdA : Mem) (indA : MemL) (imP : Mem) (inP : MemL) (imS : Mem) (imB : Mem) (imO : Mem) (imR : Mem) (imA : Mem) (inA : MemL) (imH : Mem) (ihs : (Nat → PSt)) (r' : Int32)  (hE : f_L_silo_N x1 x2 imT imdP indP imdS imdB imdO imdR imdA indA imP inP imS imB imO imR imA inA imH ihs = some r') : CH l yL_silo wsL_silo rm_L_silo_N D cy [.ref (aI 0), .int x1, .int x2] (W_All cy aI aT adP adS adB adO adR adA aP aS aB aO aR aA aH ah imT imdP indP imdS imdB imdO imdR imdA indA imP inP imS imB imO imR imA inA imH ihs) 0 0 (QI D cy r' (W_All cy aI aT adP adS adB adO adR adA aP aS aB aO aR aA aH ah imT imdP indP imdS imdB imdO imdR imdA indA imP inP imS imB imO imR imA inA imH ihs)) := by
  refine CH_of (cc := cL_silo) (maxL := 4) (ret := (some .int)) (hh := [(0, 6, 7, 25), (0, 6, 11, 15)]) (by decide) rfl (Nat.le_of_ble_eq_true rfl) (fun p e s m args below meth c A ls hx hb hr hml hlocks hown hts hA htab hK hN hX hP hD hS hl => ?_)
  have hown : s.vm.findClass RL = some m.cls := hown
  have hl : lv_has ls 4 [(0, .ref (aI 0)), (1, .int x1), (2, .int x2)] := hl
  have hC : CallFix p m c cL_silo 4 s args wsL_silo RL := ⟨hx, hb, hml, hown, hts⟩
  unfold f_L_silo_N at hE
  refine lv_aload_n hx hb dL_silo_0 rfl (lv_at hl 0 rfl) ?_
  refine lv_iload_n hx hb dL_silo_1 rfl (lv_at hl 1 rfl) ?_
  refine lv_iload_n hx hb dL_silo_2 rfl (lv_at hl 2 rfl) ?_
  refine ki (X := []) (Y := []) (ws1 := (W_All cy aI aT adP adS adB adO adR adA aP aS aB aO aR aA aH ah imT imdP indP imdS imdB imdO imdR imdA indA imP inP imS imB imO imR imA inA imH ihs)) (rV (X := []) (Y := []) (As := [.int x1, .int x2]) (rest := []) hC (c_X8_silo_N l D cy aI aT adP adS adB adO adR adA aP aS aB aO aR aA aH ah x1 x2 imT imdP indP imdS imdB imdO imdR imdA indA imP inP imS imB imO imR imA inA imH ihs r' hE) (cwV 2 hts gL_silo_X8_silo rfl rfl rfl cd_X8_silo ⟨Nat.le_of_ble_eq_true rfl, Nat.le_of_ble_eq_true rfl⟩) hK hN hP hD hS hA rfl 0 8 rfl rfl rfl hl.1 rfl (lv_room (Nat.le_of_ble_eq_true rfl)) dL_silo_3 ⟨Nat.le_of_ble_eq_true rfl, Nat.le_of_ble_eq_true rfl⟩) hP hD hS hA rfl rfl rfl (fun H locs hP hD hS => ?_)
  exact ei hx hb hr hlocks hK hP hD hS rfl rfl dL_silo_6
abbrev rm_L_boat_N : Room := { frames := 3, cells := 0, slots := 0, locals := 66 }
set_option maxHeartbeats 40000000 in
set_option maxRecDepth 100000 in
theorem c_L_boat_N (l : Launch) (D : va_G) (cy : Nat → Nat) (aI aT adP adS adB adO adR adA aP aS aB aO aR aA aH : Nat → Nat) (ah : Nat → Nat → Nat → Nat) (x1 x2 : Int32) (imT : Mem) (imdP : Mem) (indP : MemL) (imdS : Mem) (imdB : Mem) (imdO : Mem) (imdR : Mem) (imdA : Mem) (indA : MemL) (imP : Mem) (inP : MemL) (imS : Mem) (imB : Mem) (imO : Mem) (imR : Mem) (imA : Mem) (inA : MemL) (imH : Mem) (ihs : (Nat → PSt)) (r' : Int32)  (hE : f_L_boat_N x1 x2 imT imdP indP imdS imdB imdO imdR imdA indA imP inP imS imB imO imR imA inA imH ihs = some r') : CH l yL_boat wsL_boat rm_L_boat_N D cy [.ref (aI 0), .int x1, .int x2] (W_All cy aI aT adP adS adB adO adR adA aP aS aB aO aR aA aH ah imT imdP indP imdS imdB imdO imdR imdA indA imP inP imS imB imO imR imA inA imH ihs) 0 0 (QI D cy r' (W_All cy aI aT adP adS adB adO adR adA aP aS aB aO aR aA aH ah imT imdP indP imdS imdB imdO imdR imdA indA imP inP imS imB imO imR imA inA imH ihs)) := by
  refine CH_of (cc := cL_boat) (maxL := 4) (ret := (some .int)) (hh := [(0, 6, 7, 25), (0, 6, 11, 15)]) (by decide) rfl (Nat.le_of_ble_eq_true rfl) (fun p e s m args below meth c A ls hx hb hr hml hlocks hown hts hA htab hK hN hX hP hD hS hl => ?_)
  have hown : s.vm.findClass RL = some m.cls := hown
  have hl : lv_has ls 4 [(0, .ref (aI 0)), (1, .int x1), (2, .int x2)] := hl
  have hC : CallFix p m c cL_boat 4 s args wsL_boat RL := ⟨hx, hb, hml, hown, hts⟩
  unfold f_L_boat_N at hE
  refine lv_aload_n hx hb dL_boat_0 rfl (lv_at hl 0 rfl) ?_
  refine lv_iload_n hx hb dL_boat_1 rfl (lv_at hl 1 rfl) ?_
  refine lv_iload_n hx hb dL_boat_2 rfl (lv_at hl 2 rfl) ?_
  refine ki (X := []) (Y := []) (ws1 := (W_All cy aI aT adP adS adB adO adR adA aP aS aB aO aR aA aH ah imT imdP indP imdS imdB imdO imdR imdA indA imP inP imS imB imO imR imA inA imH ihs)) (rV (X := []) (Y := []) (As := [.int x1, .int x2]) (rest := []) hC (c_X8_boat_N l D cy aI aT adP adS adB adO adR adA aP aS aB aO aR aA aH ah x1 x2 imT imdP indP imdS imdB imdO imdR imdA indA imP inP imS imB imO imR imA inA imH ihs r' hE) (cwV 2 hts gL_boat_X8_boat rfl rfl rfl cd_X8_boat ⟨Nat.le_of_ble_eq_true rfl, Nat.le_of_ble_eq_true rfl⟩) hK hN hP hD hS hA rfl 0 8 rfl rfl rfl hl.1 rfl (lv_room (Nat.le_of_ble_eq_true rfl)) dL_boat_3 ⟨Nat.le_of_ble_eq_true rfl, Nat.le_of_ble_eq_true rfl⟩) hP hD hS hA rfl rfl rfl (fun H locs hP hD hS => ?_)
  exact ei hx hb hr hlocks hK hP hD hS rfl rfl dL_boat_6
abbrev rm_L_orderProperty : Room := { frames := 9, cells := 2, slots := 12, locals := 144 }
set_option maxHeartbeats 40000000 in
set_option maxRecDepth 100000 in
theorem c_L_orderProperty (l : Launch) (hst : l.stackTraces = false) (D : va_G) (cy : Nat → Nat) (aI aT adP adS adB adO adR adA aP aS aB aO aR aA aH : Nat → Nat) (ah : Nat → Nat → Nat → Nat) (x1 x2 : Int32) (imT : Mem) (imdP : Mem) (indP : MemL) (imdS : Mem) (imdB : Mem) (imdO : Mem) (imdR : Mem) (imdA : Mem) (indA : MemL) (imP : Mem) (inP : MemL) (imS : Mem) (imB : Mem) (imO : Mem) (imR : Mem) (imA : Mem) (inA : MemL) (imH : Mem) (ihs : (Nat → PSt)) (r' : Int32)  (hE : f_L_orderProperty x1 x2 imT imdP indP imdS imdB imdO imdR imdA indA imP inP imS imB imO imR imA inA imH ihs = some r') : CH l yL_orderProperty wsL_orderProperty rm_L_orderProperty D cy [.ref (aI 0), .int x1, .int x2] (W_All cy aI aT adP adS adB adO adR adA aP aS aB aO aR aA aH ah imT imdP indP imdS imdB imdO imdR imdA indA imP inP imS imB imO imR imA inA imH ihs) 2 12 (QI D cy r' (W_All cy aI aT adP adS adB adO adR adA aP aS aB aO aR aA aH ah imT imdP indP imdS imdB imdO imdR imdA indA imP inP imS imB imO imR imA inA imH ihs)) := by
  refine CH_of (cc := cL_orderProperty) (maxL := 4) (ret := (some .int)) (hh := [(0, 6, 7, 25), (0, 6, 11, 15)]) (by decide) rfl (Nat.le_of_ble_eq_true rfl) (fun p e s m args below meth c A ls hx hb hr hml hlocks hown hts hA htab hK hN hX hP hD hS hl => ?_)
  have hown : s.vm.findClass RL = some m.cls := hown
  have hl : lv_has ls 4 [(0, .ref (aI 0)), (1, .int x1), (2, .int x2)] := hl
  have hC : CallFix p m c cL_orderProperty 4 s args wsL_orderProperty RL := ⟨hx, hb, hml, hown, hts⟩
  unfold f_L_orderProperty at hE
  obtain ⟨k0, r0, hc, hE⟩ := bd2_el hE
  refine lv_aload_n hx hb dL_orderProperty_0 rfl (lv_at hl 0 rfl) ?_
  refine lv_iload_n hx hb dL_orderProperty_1 rfl (lv_at hl 1 rfl) ?_
  refine lv_iload_n hx hb dL_orderProperty_2 rfl (lv_at hl 2 rfl) ?_
  refine kxi (X := []) (Y := []) (ws1 := (W_All cy aI aT adP adS adB adO adR adA aP aS aB aO aR aA aH ah imT imdP indP imdS imdB imdO imdR imdA indA imP inP imS imB imO imR imA inA imH ihs)) (xV (X := []) (Y := []) (As := [.int x1, .int x2]) (rest := []) hC (c_X8_orderProperty l hst D cy aI aT adP adS adB adO adR adA aP aS aB aO aR aA aH ah x1 x2 imT imdP indP imdS imdB imdO imdR imdA indA imP inP imS imB imO imR imA inA imH ihs k0 r0 hc) (cwV 2 hts gL_orderProperty_X8_orderProperty rfl rfl rfl cd_X8_orderProperty ⟨Nat.le_of_ble_eq_true rfl, Nat.le_of_ble_eq_true rfl⟩) hK hN hP hD hS hA rfl 0 8 rfl rfl rfl hl.1 rfl (lv_room (Nat.le_of_ble_eq_true rfl)) dL_orderProperty_3 ⟨Nat.le_of_ble_eq_true rfl, Nat.le_of_ble_eq_true rfl⟩) hP hD hS hA rfl rfl rfl (fun hk0 H locs ce q9 hP hD hS hce hcv hcl => ?_) (fun hk0 H locs hP hD hS => ?_)
  · replace hE := it_f hE hk0
    by_cases c1 : k0 = 1
    · replace hE := it_t hE c1
      have hE := Option.some.inj hE
      rw [c1] at hcl
      refine kc (k := 1) (pre := []) (suf := [⟨0, 6, 11, 15⟩]) hown ⟨0, 6, 7, 25⟩ htab hX (by decide) (by decide) (fun z hz => absurd hz List.not_mem_nil) rfl (by decide) (hts _ (mC qg_L_25)) hce hcv hcl ?_
      refine W.eq (g2 := F0 m 7 ls [.ref q9]) rfl ?_
      refine lv_astore_n (lv' := [(3, .ref q9), (0, .ref (aI 0)), (1, .int x1), (2, .int x2)]) hx hb dL_orderProperty_7 rfl hl (by decide) rfl (fun ls hl => ?_)
      have kq : (Cond.constant RL 27 (-2000001)).before args s = true := hts _ (mC qk_L_27)
      refine lv_ldc hx hb hown kq dL_orderProperty_8 ?_
      exact ei hx hb hr hlocks hK hP hD hS hE rfl dL_orderProperty_10
    · replace hE := it_f hE c1
      by_cases c2 : k0 = 2
      · replace hE := it_t hE c2
        have hE := Option.some.inj hE
        rw [c2] at hcl
        refine kc (k := 2) (pre := [⟨0, 6, 7, 25⟩]) (suf := []) hown ⟨0, 6, 11, 15⟩ htab hX (by decide) (by decide) (fun z hz => by
        rcases List.mem_singleton.mp hz with rfl
        · exact ⟨by decide, 1, by decide, by decide, by decide, hts _ (mC qg_L_25)⟩) rfl (by decide) (hts _ (mC qg_L_15)) hce hcv hcl ?_
        refine W.eq (g2 := F0 m 11 ls [.ref q9]) rfl ?_
        refine lv_astore_n (lv' := [(3, .ref q9), (0, .ref (aI 0)), (1, .int x1), (2, .int x2)]) hx hb dL_orderProperty_11 rfl hl (by decide) rfl (fun ls hl => ?_)
        have kq : (Cond.constant RL 17 (-2000002)).before args s = true := hts _ (mC qk_L_17)
        refine lv_ldc hx hb hown kq dL_orderProperty_12 ?_
        exact ei hx hb hr hlocks hK hP hD hS hE rfl dL_orderProperty_14
      · replace hE := it_f hE c2
        exact absurd hE (fun h9 => nomatch h9)
  · replace hE := it_t hE hk0
    have hE := Option.some.inj hE
    exact ei hx hb hr hlocks hK hP hD hS hE rfl dL_orderProperty_6
abbrev rm_L_receipt : Room := { frames := 9, cells := 2, slots := 12, locals := 144 }
set_option maxHeartbeats 40000000 in
set_option maxRecDepth 100000 in
theorem c_L_receipt (l : Launch) (hst : l.stackTraces = false) (D : va_G) (cy : Nat → Nat) (aI aT adP adS adB adO adR adA aP aS aB aO aR aA aH : Nat → Nat) (ah : Nat → Nat → Nat → Nat) (x1 x2 : Int32) (imT : Mem) (imdP : Mem) (indP : MemL) (imdS : Mem) (imdB : Mem) (imdO : Mem) (imdR : Mem) (imdA : Mem) (indA : MemL) (imP : Mem) (inP : MemL) (imS : Mem) (imB : Mem) (imO : Mem) (imR : Mem) (imA : Mem) (inA : MemL) (imH : Mem) (ihs : (Nat → PSt)) (r' : Int32)  (hE : f_L_receipt x1 x2 imT imdP indP imdS imdB imdO imdR imdA indA imP inP imS imB imO imR imA inA imH ihs = some r') : CH l yL_receipt wsL_receipt rm_L_receipt D cy [.ref (aI 0), .int x1, .int x2] (W_All cy aI aT adP adS adB adO adR adA aP aS aB aO aR aA aH ah imT imdP indP imdS imdB imdO imdR imdA indA imP inP imS imB imO imR imA inA imH ihs) 2 12 (QI D cy r' (W_All cy aI aT adP adS adB adO adR adA aP aS aB aO aR aA aH ah imT imdP indP imdS imdB imdO imdR imdA indA imP inP imS imB imO imR imA inA imH ihs)) := by
  refine CH_of (cc := cL_receipt) (maxL := 4) (ret := (some .int)) (hh := [(0, 6, 7, 25), (0, 6, 11, 15)]) (by decide) rfl (Nat.le_of_ble_eq_true rfl) (fun p e s m args below meth c A ls hx hb hr hml hlocks hown hts hA htab hK hN hX hP hD hS hl => ?_)
  have hown : s.vm.findClass RL = some m.cls := hown
  have hl : lv_has ls 4 [(0, .ref (aI 0)), (1, .int x1), (2, .int x2)] := hl
  have hC : CallFix p m c cL_receipt 4 s args wsL_receipt RL := ⟨hx, hb, hml, hown, hts⟩
  unfold f_L_receipt at hE
  obtain ⟨k0, r0, hc, hE⟩ := bd2_el hE
  refine lv_aload_n hx hb dL_receipt_0 rfl (lv_at hl 0 rfl) ?_
  refine lv_iload_n hx hb dL_receipt_1 rfl (lv_at hl 1 rfl) ?_
  refine lv_iload_n hx hb dL_receipt_2 rfl (lv_at hl 2 rfl) ?_
  refine kxi (X := []) (Y := []) (ws1 := (W_All cy aI aT adP adS adB adO adR adA aP aS aB aO aR aA aH ah imT imdP indP imdS imdB imdO imdR imdA indA imP inP imS imB imO imR imA inA imH ihs)) (xV (X := []) (Y := []) (As := [.int x1, .int x2]) (rest := []) hC (c_X8_receipt l hst D cy aI aT adP adS adB adO adR adA aP aS aB aO aR aA aH ah x1 x2 imT imdP indP imdS imdB imdO imdR imdA indA imP inP imS imB imO imR imA inA imH ihs k0 r0 hc) (cwV 2 hts gL_receipt_X8_receipt rfl rfl rfl cd_X8_receipt ⟨Nat.le_of_ble_eq_true rfl, Nat.le_of_ble_eq_true rfl⟩) hK hN hP hD hS hA rfl 0 8 rfl rfl rfl hl.1 rfl (lv_room (Nat.le_of_ble_eq_true rfl)) dL_receipt_3 ⟨Nat.le_of_ble_eq_true rfl, Nat.le_of_ble_eq_true rfl⟩) hP hD hS hA rfl rfl rfl (fun hk0 H locs ce q9 hP hD hS hce hcv hcl => ?_) (fun hk0 H locs hP hD hS => ?_)
  · replace hE := it_f hE hk0
    by_cases c1 : k0 = 1
    · replace hE := it_t hE c1
      have hE := Option.some.inj hE
      rw [c1] at hcl
      refine kc (k := 1) (pre := []) (suf := [⟨0, 6, 11, 15⟩]) hown ⟨0, 6, 7, 25⟩ htab hX (by decide) (by decide) (fun z hz => absurd hz List.not_mem_nil) rfl (by decide) (hts _ (mC qg_L_25)) hce hcv hcl ?_
      refine W.eq (g2 := F0 m 7 ls [.ref q9]) rfl ?_
      refine lv_astore_n (lv' := [(3, .ref q9), (0, .ref (aI 0)), (1, .int x1), (2, .int x2)]) hx hb dL_receipt_7 rfl hl (by decide) rfl (fun ls hl => ?_)
      have kq : (Cond.constant RL 27 (-2000001)).before args s = true := hts _ (mC qk_L_27)
      refine lv_ldc hx hb hown kq dL_receipt_8 ?_
      exact ei hx hb hr hlocks hK hP hD hS hE rfl dL_receipt_10
    · replace hE := it_f hE c1
      by_cases c2 : k0 = 2
      · replace hE := it_t hE c2
        have hE := Option.some.inj hE
        rw [c2] at hcl
        refine kc (k := 2) (pre := [⟨0, 6, 7, 25⟩]) (suf := []) hown ⟨0, 6, 11, 15⟩ htab hX (by decide) (by decide) (fun z hz => by
        rcases List.mem_singleton.mp hz with rfl
        · exact ⟨by decide, 1, by decide, by decide, by decide, hts _ (mC qg_L_25)⟩) rfl (by decide) (hts _ (mC qg_L_15)) hce hcv hcl ?_
        refine W.eq (g2 := F0 m 11 ls [.ref q9]) rfl ?_
        refine lv_astore_n (lv' := [(3, .ref q9), (0, .ref (aI 0)), (1, .int x1), (2, .int x2)]) hx hb dL_receipt_11 rfl hl (by decide) rfl (fun ls hl => ?_)
        have kq : (Cond.constant RL 17 (-2000002)).before args s = true := hts _ (mC qk_L_17)
        refine lv_ldc hx hb hown kq dL_receipt_12 ?_
        exact ei hx hb hr hlocks hK hP hD hS hE rfl dL_receipt_14
      · replace hE := it_f hE c2
        exact absurd hE (fun h9 => nomatch h9)
  · replace hE := it_t hE hk0
    have hE := Option.some.inj hE
    exact ei hx hb hr hlocks hK hP hD hS hE rfl dL_receipt_6
