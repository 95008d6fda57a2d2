/-- L_massAfter -/
def f_L_massAfter (x1 : Int32) (imT : Mem) (imdP : Mem) (indP : MemL) (imdS : Mem) (imdB : Mem) (imdO : Mem) (imdR : Mem) (imdA : Mem) (indA : MemL) (imP : Mem) (inP : MemL) (imS : Mem) (imB : Mem) (imO : Mem) (imR : Mem) (imA : Mem) (inA : MemL) (imH : Mem) (ihs : (Nat → PSt)) : Option (Int32 × Mem × MemL × Mem × Mem × Mem × Mem × Mem × MemL) := bd10 (f_X8_massAfter x1 imT imdP indP imdS imdB imdO imdR imdA indA imP inP imS imB imO imR imA inA imH ihs) fun k0 r0 mdP0 ndP0 mdS0 mdB0 mdO0 mdR0 mdA0 ndA0 => (if k0 = 0 then some (r0, mdP0, ndP0, mdS0, mdB0, mdO0, mdR0, mdA0, ndA0) else if k0 = 2 then some ((-2000002 : Int32), mdP0, ndP0, mdS0, mdB0, mdO0, mdR0, mdA0, ndA0) else none)
/-- L_completeIn -/
def f_L_completeIn (x1 : Int32) (imT : Mem) (imdP : Mem) (indP : MemL) (imdS : Mem) (imdB : Mem) (imdO : Mem) (imdR : Mem) (imdA : Mem) (indA : MemL) (imP : Mem) (inP : MemL) (imS : Mem) (imB : Mem) (imO : Mem) (imR : Mem) (imA : Mem) (inA : MemL) (imH : Mem) (ihs : (Nat → PSt)) : Option (Int32 × Mem × MemL × Mem × Mem × Mem × Mem × Mem × MemL) := bd10 (f_X8_completeIn x1 imT imdP indP imdS imdB imdO imdR imdA indA imP inP imS imB imO imR imA inA imH ihs) fun k0 r0 mdP0 ndP0 mdS0 mdB0 mdO0 mdR0 mdA0 ndA0 => (if k0 = 0 then some (r0, mdP0, ndP0, mdS0, mdB0, mdO0, mdR0, mdA0, ndA0) else if k0 = 1 then some ((-2000001 : Int32), mdP0, ndP0, mdS0, mdB0, mdO0, mdR0, mdA0, ndA0) else if k0 = 3 then some ((-2000003 : Int32), mdP0, ndP0, mdS0, mdB0, mdO0, mdR0, mdA0, ndA0) else none)
/-- L_bestRule -/
def f_L_bestRule (x1 x2 : Int32) (imT : Mem) (imdP : Mem) (indP : MemL) (imdS : Mem) (imdB : Mem) (imdO : Mem) (imdR : Mem) (imdA : Mem) (indA : MemL) (imP : Mem) (inP : MemL) (imS : Mem) (imB : Mem) (imO : Mem) (imR : Mem) (imA : Mem) (inA : MemL) (imH : Mem) (ihs : (Nat → PSt)) : Option (Int32 × Mem × MemL × Mem × Mem × Mem × Mem × Mem × MemL) := bd10 (f_X8_bestRule x1 x2 imT imdP indP imdS imdB imdO imdR imdA indA imP inP imS imB imO imR imA inA imH ihs) fun k0 r0 mdP0 ndP0 mdS0 mdB0 mdO0 mdR0 mdA0 ndA0 => (if k0 = 0 then some (r0, mdP0, ndP0, mdS0, mdB0, mdO0, mdR0, mdA0, ndA0) else if k0 = 1 then some ((-2000001 : Int32), mdP0, ndP0, mdS0, mdB0, mdO0, mdR0, mdA0, ndA0) else if k0 = 2 then some ((-2000002 : Int32), mdP0, ndP0, mdS0, mdB0, mdO0, mdR0, mdA0, ndA0) else none)
/-- L_quote -/
def f_L_quote (x1 x2 x3 : Int32) (imT : Mem) (imdP : Mem) (indP : MemL) (imdS : Mem) (imdB : Mem) (imdO : Mem) (imdR : Mem) (imdA : Mem) (indA : MemL) (imP : Mem) (inP : MemL) (imS : Mem) (imB : Mem) (imO : Mem) (imR : Mem) (imA : Mem) (inA : MemL) (imH : Mem) (ihs : (Nat → PSt)) : Option (Int32) := bd2 (f_X8_quote x1 x2 x3 imT imdP indP imdS imdB imdO imdR imdA indA imP inP imS imB imO imR imA inA imH ihs) fun k0 r0 => (if k0 = 0 then some r0 else if k0 = 1 then some (-2000001 : Int32) else if k0 = 2 then some (-2000002 : Int32) else none)
/-- L_undo -/
def f_L_undo (imT : Mem) (imdP : Mem) (indP : MemL) (imdS : Mem) (imdB : Mem) (imdO : Mem) (imdR : Mem) (imdA : Mem) (indA : MemL) (imP : Mem) (inP : MemL) (imS : Mem) (imB : Mem) (imO : Mem) (imR : Mem) (imA : Mem) (inA : MemL) (imH : Mem) (ihs : (Nat → PSt)) : Option (Int32 × Mem × MemL × Mem × Mem × Mem × Mem × Mem × MemL × Mem) := bd11 (f_X8_undo imT imdP indP imdS imdB imdO imdR imdA indA imP inP imS imB imO imR imA inA imH ihs) fun k0 r0 mP0 nP0 mS0 mB0 mO0 mR0 mA0 nA0 mH0 => (if k0 = 0 then some (r0, mP0, nP0, mS0, mB0, mO0, mR0, mA0, nA0, mH0) else if k0 = 3 then some ((-2000003 : Int32), mP0, nP0, mS0, mB0, mO0, mR0, mA0, nA0, mH0) else none)
/-- L_total_N -/
def f_L_total_N (x1 : Int32) (imT : Mem) (imdP : Mem) (indP : MemL) (imdS : Mem) (imdB : Mem) (imdO : Mem) (imdR : Mem) (imdA : Mem) (indA : MemL) (imP : Mem) (inP : MemL) (imS : Mem) (imB : Mem) (imO : Mem) (imR : Mem) (imA : Mem) (inA : MemL) (imH : Mem) (ihs : (Nat → PSt)) : Option (Int64) := f_X8_total_N x1 imT imdP indP imdS imdB imdO imdR imdA indA imP inP imS imB imO imR imA inA imH ihs
/-- L_account_N -/
def f_L_account_N (x1 x2 : Int32) (imT : Mem) (imdP : Mem) (indP : MemL) (imdS : Mem) (imdB : Mem) (imdO : Mem) (imdR : Mem) (imdA : Mem) (indA : MemL) (imP : Mem) (inP : MemL) (imS : Mem) (imB : Mem) (imO : Mem) (imR : Mem) (imA : Mem) (inA : MemL) (imH : Mem) (ihs : (Nat → PSt)) : Option (Int64) := f_X8_account_N x1 x2 imT imdP indP imdS imdB imdO imdR imdA indA imP inP imS imB imO imR imA inA imH ihs
/-- L_findAccount_N -/
def f_L_findAccount_N (x1 x2 : Int32) (imT : Mem) (imdP : Mem) (indP : MemL) (imdS : Mem) (imdB : Mem) (imdO : Mem) (imdR : Mem) (imdA : Mem) (indA : MemL) (imP : Mem) (inP : MemL) (imS : Mem) (imB : Mem) (imO : Mem) (imR : Mem) (imA : Mem) (inA : MemL) (imH : Mem) (ihs : (Nat → PSt)) : Option (Int32) := f_X8_findAccount_N x1 x2 imT imdP indP imdS imdB imdO imdR imdA indA imP inP imS imB imO imR imA inA imH ihs
abbrev rm_L_massAfter : Room := { frames := 9, cells := 1, slots := 6, locals := 166 }
set_option maxHeartbeats 40000000 in
set_option maxRecDepth 100000 in
theorem c_L_massAfter (l : Launch) (hst : l.stackTraces = false) (D : va_G) (cy : Nat → Nat) (aI aT adP adS adB adO adR adA aP aS aB aO aR aA aH : Nat → Nat) (ah : Nat → Nat → Nat → Nat) (x1 : Int32) (imT : Mem) (imdP : Mem) (indP : MemL) (imdS : Mem) (imdB : Mem) (imdO : Mem) (imdR : Mem) (imdA : Mem) (indA : MemL) (imP : Mem) (inP : MemL) (imS : Mem) (imB : Mem) (imO : Mem) (imR : Mem) (imA : Mem) (inA : MemL) (imH : Mem) (ihs : (Nat → PSt)) (r' : Int32) (mdP' : Mem) (ndP' : MemL) (mdS' : Mem) (mdB' : Mem) (mdO' : Mem) (mdR' : Mem) (mdA' : Mem) (ndA' : MemL) (hE : f_L_massAfter x1 imT imdP indP imdS imdB imdO imdR imdA indA imP inP imS imB imO imR imA inA imH ihs = some (r', mdP', ndP', mdS', mdB', mdO', mdR', mdA', ndA')) : CH l yL_massAfter wsL_massAfter rm_L_massAfter D cy [.ref (aI 0), .int x1] (W_All cy aI aT adP adS adB adO adR adA aP aS aB aO aR aA aH ah imT imdP indP imdS imdB imdO imdR imdA indA imP inP imS imB imO imR imA inA imH ihs) 1 6 (QI D cy r' (W_All cy aI aT adP adS adB adO adR adA aP aS aB aO aR aA aH ah imT mdP' ndP' mdS' mdB' mdO' mdR' mdA' ndA' imP inP imS imB imO imR imA inA imH ihs)) := by
  refine CH_of (cc := cL_massAfter) (maxL := 3) (ret := (some .int)) (hh := [(0, 5, 6, 15)]) (by decide) rfl (Nat.le_of_ble_eq_true rfl) (fun p e s m args below meth c A ls hx hb hr hml hlocks hown hts hA htab hK hN hX hP hD hS hl => ?_)
  have hown : s.vm.findClass RL = some m.cls := hown
  have hl : lv_has ls 3 [(0, .ref (aI 0)), (1, .int x1)] := hl
  have hC : CallFix p m c cL_massAfter 3 s args wsL_massAfter RL := ⟨hx, hb, hml, hown, hts⟩
  unfold f_L_massAfter at hE
  obtain ⟨k0, r0, mdP0, ndP0, mdS0, mdB0, mdO0, mdR0, mdA0, ndA0, hc, hE⟩ := bd10_el hE
  refine lv_aload_n hx hb dL_massAfter_0 rfl (lv_at hl 0 rfl) ?_
  refine lv_iload_n hx hb dL_massAfter_1 rfl (lv_at hl 1 rfl) ?_
  refine kxi (X := []) (Y := []) (ws1 := (W_All cy aI aT adP adS adB adO adR adA aP aS aB aO aR aA aH ah imT mdP0 ndP0 mdS0 mdB0 mdO0 mdR0 mdA0 ndA0 imP inP imS imB imO imR imA inA imH ihs)) (xV (X := []) (Y := []) (As := [.int x1]) (rest := []) hC (c_X8_massAfter l hst D cy aI aT adP adS adB adO adR adA aP aS aB aO aR aA aH ah x1 imT imdP indP imdS imdB imdO imdR imdA indA imP inP imS imB imO imR imA inA imH ihs k0 r0 mdP0 ndP0 mdS0 mdB0 mdO0 mdR0 mdA0 ndA0 hc) (cwV 1 hts gL_massAfter_X8_massAfter rfl rfl rfl cd_X8_massAfter ⟨Nat.le_of_ble_eq_true rfl, Nat.le_of_ble_eq_true rfl⟩) hK hN hP hD hS hA rfl 0 8 rfl rfl rfl hl.1 rfl (lv_room (Nat.le_of_ble_eq_true rfl)) dL_massAfter_2 ⟨Nat.le_of_ble_eq_true rfl, Nat.le_of_ble_eq_true rfl⟩) hP hD hS hA rfl rfl rfl (fun hk0 H locs ce q9 hP hD hS hce hcv hcl => ?_) (fun hk0 H locs hP hD hS => ?_)
  · replace hE := it_f hE hk0
    by_cases c2 : k0 = 2
    · replace hE := it_t hE c2
      have hE := Option.some.inj hE
      obtain ⟨qq0, hE⟩ := Prod.mk.inj hE
      obtain ⟨qq1, hE⟩ := Prod.mk.inj hE
      obtain ⟨qq2, hE⟩ := Prod.mk.inj hE
      obtain ⟨qq3, hE⟩ := Prod.mk.inj hE
      obtain ⟨qq4, hE⟩ := Prod.mk.inj hE
      obtain ⟨qq5, hE⟩ := Prod.mk.inj hE
      obtain ⟨qq6, hE⟩ := Prod.mk.inj hE
      obtain ⟨qq7, qq8⟩ := Prod.mk.inj hE
      rw [c2] at hcl
      refine kc (k := 2) (pre := []) (suf := []) hown ⟨0, 5, 6, 15⟩ htab hX (by decide) (by decide) (fun z hz => absurd hz List.not_mem_nil) rfl (by decide) (hts _ (mC qg_L_15)) hce hcv hcl ?_
      refine W.eq (g2 := F0 m 6 ls [.ref q9]) rfl ?_
      refine lv_astore_n (lv' := [(2, .ref q9), (0, .ref (aI 0)), (1, .int x1)]) hx hb dL_massAfter_6 rfl hl (by decide) rfl (fun ls hl => ?_)
      have kq : (Cond.constant RL 17 (-2000002)).before args s = true := hts _ (mC qk_L_17)
      refine lv_ldc hx hb hown kq dL_massAfter_7 ?_
      exact ei hx hb hr hlocks hK hP hD hS qq0 (by rw [qq1, qq2, qq3, qq4, qq5, qq6, qq7, qq8]) dL_massAfter_9
    · replace hE := it_f hE c2
      exact absurd hE (fun h9 => nomatch h9)
  · replace hE := it_t hE hk0
    have hE := Option.some.inj hE
    obtain ⟨qq0, hE⟩ := Prod.mk.inj hE
    obtain ⟨qq1, hE⟩ := Prod.mk.inj hE
    obtain ⟨qq2, hE⟩ := Prod.mk.inj hE
    obtain ⟨qq3, hE⟩ := Prod.mk.inj hE
    obtain ⟨qq4, hE⟩ := Prod.mk.inj hE
    obtain ⟨qq5, hE⟩ := Prod.mk.inj hE
    obtain ⟨qq6, hE⟩ := Prod.mk.inj hE
    obtain ⟨qq7, qq8⟩ := Prod.mk.inj hE
    exact ei hx hb hr hlocks hK hP hD hS qq0 (by rw [qq1, qq2, qq3, qq4, qq5, qq6, qq7, qq8]) dL_massAfter_5
abbrev rm_L_completeIn : Room := { frames := 9, cells := 2, slots := 12, locals := 144 }
set_option maxHeartbeats 40000000 in
set_option maxRecDepth 100000 in
theorem c_L_completeIn (l : Launch) (hst : l.stackTraces = false) (D : va_G) (cy : Nat → Nat) (aI aT adP adS adB adO adR adA aP aS aB aO aR aA aH : Nat → Nat) (ah : Nat → Nat → Nat → Nat) (x1 : Int32) (imT : Mem) (imdP : Mem) (indP : MemL) (imdS : Mem) (imdB : Mem) (imdO : Mem) (imdR : Mem) (imdA : Mem) (indA : MemL) (imP : Mem) (inP : MemL) (imS : Mem) (imB : Mem) (imO : Mem) (imR : Mem) (imA : Mem) (inA : MemL) (imH : Mem) (ihs : (Nat → PSt)) (r' : Int32) (mdP' : Mem) (ndP' : MemL) (mdS' : Mem) (mdB' : Mem) (mdO' : Mem) (mdR' : Mem) (mdA' : Mem) (ndA' : MemL) (hE : f_L_completeIn x1 imT imdP indP imdS imdB imdO imdR imdA indA imP inP imS imB imO imR imA inA imH ihs = some (r', mdP', ndP', mdS', mdB', mdO', mdR', mdA', ndA')) : CH l yL_completeIn wsL_completeIn rm_L_completeIn D cy [.ref (aI 0), .int x1] (W_All cy aI aT adP adS adB adO adR adA aP aS aB aO aR aA aH ah imT imdP indP imdS imdB imdO imdR imdA indA imP inP imS imB imO imR imA inA imH ihs) 2 12 (QI D cy r' (W_All cy aI aT adP adS adB adO adR adA aP aS aB aO aR aA aH ah imT mdP' ndP' mdS' mdB' mdO' mdR' mdA' ndA' imP inP imS imB imO imR imA inA imH ihs)) := by
  refine CH_of (cc := cL_completeIn) (maxL := 3) (ret := (some .int)) (hh := [(0, 5, 6, 25), (0, 5, 10, 18)]) (by decide) rfl (Nat.le_of_ble_eq_true rfl) (fun p e s m args below meth c A ls hx hb hr hml hlocks hown hts hA htab hK hN hX hP hD hS hl => ?_)
  have hown : s.vm.findClass RL = some m.cls := hown
  have hl : lv_has ls 3 [(0, .ref (aI 0)), (1, .int x1)] := hl
  have hC : CallFix p m c cL_completeIn 3 s args wsL_completeIn RL := ⟨hx, hb, hml, hown, hts⟩
  unfold f_L_completeIn at hE
  obtain ⟨k0, r0, mdP0, ndP0, mdS0, mdB0, mdO0, mdR0, mdA0, ndA0, hc, hE⟩ := bd10_el hE
  refine lv_aload_n hx hb dL_completeIn_0 rfl (lv_at hl 0 rfl) ?_
  refine lv_iload_n hx hb dL_completeIn_1 rfl (lv_at hl 1 rfl) ?_
  refine kxi (X := []) (Y := []) (ws1 := (W_All cy aI aT adP adS adB adO adR adA aP aS aB aO aR aA aH ah imT mdP0 ndP0 mdS0 mdB0 mdO0 mdR0 mdA0 ndA0 imP inP imS imB imO imR imA inA imH ihs)) (xV (X := []) (Y := []) (As := [.int x1]) (rest := []) hC (c_X8_completeIn l hst D cy aI aT adP adS adB adO adR adA aP aS aB aO aR aA aH ah x1 imT imdP indP imdS imdB imdO imdR imdA indA imP inP imS imB imO imR imA inA imH ihs k0 r0 mdP0 ndP0 mdS0 mdB0 mdO0 mdR0 mdA0 ndA0 hc) (cwV 1 hts gL_completeIn_X8_completeIn rfl rfl rfl cd_X8_completeIn ⟨Nat.le_of_ble_eq_true rfl, Nat.le_of_ble_eq_true rfl⟩) hK hN hP hD hS hA rfl 0 8 rfl rfl rfl hl.1 rfl (lv_room (Nat.le_of_ble_eq_true rfl)) dL_completeIn_2 ⟨Nat.le_of_ble_eq_true rfl, Nat.le_of_ble_eq_true rfl⟩) hP hD hS hA rfl rfl rfl (fun hk0 H locs ce q9 hP hD hS hce hcv hcl => ?_) (fun hk0 H locs hP hD hS => ?_)
  · replace hE := it_f hE hk0
    by_cases c1 : k0 = 1
    · replace hE := it_t hE c1
      have hE := Option.some.inj hE
      obtain ⟨qq0, hE⟩ := Prod.mk.inj hE
      obtain ⟨qq1, hE⟩ := Prod.mk.inj hE
      obtain ⟨qq2, hE⟩ := Prod.mk.inj hE
      obtain ⟨qq3, hE⟩ := Prod.mk.inj hE
      obtain ⟨qq4, hE⟩ := Prod.mk.inj hE
      obtain ⟨qq5, hE⟩ := Prod.mk.inj hE
      obtain ⟨qq6, hE⟩ := Prod.mk.inj hE
      obtain ⟨qq7, qq8⟩ := Prod.mk.inj hE
      rw [c1] at hcl
      refine kc (k := 1) (pre := []) (suf := [⟨0, 5, 10, 18⟩]) hown ⟨0, 5, 6, 25⟩ htab hX (by decide) (by decide) (fun z hz => absurd hz List.not_mem_nil) rfl (by decide) (hts _ (mC qg_L_25)) hce hcv hcl ?_
      refine W.eq (g2 := F0 m 6 ls [.ref q9]) rfl ?_
      refine lv_astore_n (lv' := [(2, .ref q9), (0, .ref (aI 0)), (1, .int x1)]) hx hb dL_completeIn_6 rfl hl (by decide) rfl (fun ls hl => ?_)
      have kq : (Cond.constant RL 27 (-2000001)).before args s = true := hts _ (mC qk_L_27)
      refine lv_ldc hx hb hown kq dL_completeIn_7 ?_
      exact ei hx hb hr hlocks hK hP hD hS qq0 (by rw [qq1, qq2, qq3, qq4, qq5, qq6, qq7, qq8]) dL_completeIn_9
    · replace hE := it_f hE c1
      by_cases c3 : k0 = 3
      · replace hE := it_t hE c3
        have hE := Option.some.inj hE
        obtain ⟨qq0, hE⟩ := Prod.mk.inj hE
        obtain ⟨qq1, hE⟩ := Prod.mk.inj hE
        obtain ⟨qq2, hE⟩ := Prod.mk.inj hE
        obtain ⟨qq3, hE⟩ := Prod.mk.inj hE
        obtain ⟨qq4, hE⟩ := Prod.mk.inj hE
        obtain ⟨qq5, hE⟩ := Prod.mk.inj hE
        obtain ⟨qq6, hE⟩ := Prod.mk.inj hE
        obtain ⟨qq7, qq8⟩ := Prod.mk.inj hE
        rw [c3] at hcl
        refine kc (k := 3) (pre := [⟨0, 5, 6, 25⟩]) (suf := []) hown ⟨0, 5, 10, 18⟩ htab hX (by decide) (by decide) (fun z hz => by
        rcases List.mem_singleton.mp hz with rfl
        · exact ⟨by decide, 1, by decide, by decide, by decide, hts _ (mC qg_L_25)⟩) rfl (by decide) (hts _ (mC qg_L_18)) hce hcv hcl ?_
        refine W.eq (g2 := F0 m 10 ls [.ref q9]) rfl ?_
        refine lv_astore_n (lv' := [(2, .ref q9), (0, .ref (aI 0)), (1, .int x1)]) hx hb dL_completeIn_10 rfl hl (by decide) rfl (fun ls hl => ?_)
        have kq : (Cond.constant RL 20 (-2000003)).before args s = true := hts _ (mC qk_L_20)
        refine lv_ldc hx hb hown kq dL_completeIn_11 ?_
        exact ei hx hb hr hlocks hK hP hD hS qq0 (by rw [qq1, qq2, qq3, qq4, qq5, qq6, qq7, qq8]) dL_completeIn_13
      · replace hE := it_f hE c3
        exact absurd hE (fun h9 => nomatch h9)
  · replace hE := it_t hE hk0
    have hE := Option.some.inj hE
    obtain ⟨qq0, hE⟩ := Prod.mk.inj hE
    obtain ⟨qq1, hE⟩ := Prod.mk.inj hE
    obtain ⟨qq2, hE⟩ := Prod.mk.inj hE
    obtain ⟨qq3, hE⟩ := Prod.mk.inj hE
    obtain ⟨qq4, hE⟩ := Prod.mk.inj hE
    obtain ⟨qq5, hE⟩ := Prod.mk.inj hE
    obtain ⟨qq6, hE⟩ := Prod.mk.inj hE
    obtain ⟨qq7, qq8⟩ := Prod.mk.inj hE
    exact ei hx hb hr hlocks hK hP hD hS qq0 (by rw [qq1, qq2, qq3, qq4, qq5, qq6, qq7, qq8]) dL_completeIn_5
abbrev rm_L_bestRule : Room := { frames := 9, cells := 2, slots := 12, locals := 194 }
set_option maxHeartbeats 40000000 in
set_option maxRecDepth 100000 in
theorem c_L_bestRule (l : Launch) (hst : l.stackTraces = false) (D : va_G) (cy : Nat → Nat) (aI aT adP adS adB adO adR adA aP aS aB aO aR aA aH : Nat → Nat) (ah : Nat → Nat → Nat → Nat) (x1 x2 : Int32) (imT : Mem) (imdP : Mem) (indP : MemL) (imdS : Mem) (imdB : Mem) (imdO : Mem) (imdR : Mem) (imdA : Mem) (indA : MemL) (imP : Mem) (inP : MemL) (imS : Mem) (imB : Mem) (imO : Mem) (imR : Mem) (imA : Mem) (inA : MemL) (imH : Mem) (ihs : (Nat → PSt)) (r' : Int32) (mdP' : Mem) (ndP' : MemL) (mdS' : Mem) (mdB' : Mem) (mdO' : Mem) (mdR' : Mem) (mdA' : Mem) (ndA' : MemL) (hE : f_L_bestRule x1 x2 imT imdP indP imdS imdB imdO imdR imdA indA imP inP imS imB imO imR imA inA imH ihs = some (r', mdP', ndP', mdS', mdB', mdO', mdR', mdA', ndA')) : CH l yL_bestRule wsL_bestRule rm_L_bestRule D cy [.ref (aI 0), .int x1, .int x2] (W_All cy aI aT adP adS adB adO adR adA aP aS aB aO aR aA aH ah imT imdP indP imdS imdB imdO imdR imdA indA imP inP imS imB imO imR imA inA imH ihs) 2 12 (QI D cy r' (W_All cy aI aT adP adS adB adO adR adA aP aS aB aO aR aA aH ah imT mdP' ndP' mdS' mdB' mdO' mdR' mdA' ndA' imP inP imS imB imO imR imA inA imH ihs)) := by
  refine CH_of (cc := cL_bestRule) (maxL := 4) (ret := (some .int)) (hh := [(0, 6, 7, 25), (0, 6, 11, 15)]) (by decide) rfl (Nat.le_of_ble_eq_true rfl) (fun p e s m args below meth c A ls hx hb hr hml hlocks hown hts hA htab hK hN hX hP hD hS hl => ?_)
  have hown : s.vm.findClass RL = some m.cls := hown
  have hl : lv_has ls 4 [(0, .ref (aI 0)), (1, .int x1), (2, .int x2)] := hl
  have hC : CallFix p m c cL_bestRule 4 s args wsL_bestRule RL := ⟨hx, hb, hml, hown, hts⟩
  unfold f_L_bestRule at hE
  obtain ⟨k0, r0, mdP0, ndP0, mdS0, mdB0, mdO0, mdR0, mdA0, ndA0, hc, hE⟩ := bd10_el hE
  refine lv_aload_n hx hb dL_bestRule_0 rfl (lv_at hl 0 rfl) ?_
  refine lv_iload_n hx hb dL_bestRule_1 rfl (lv_at hl 1 rfl) ?_
  refine lv_iload_n hx hb dL_bestRule_2 rfl (lv_at hl 2 rfl) ?_
  refine kxi (X := []) (Y := []) (ws1 := (W_All cy aI aT adP adS adB adO adR adA aP aS aB aO aR aA aH ah imT mdP0 ndP0 mdS0 mdB0 mdO0 mdR0 mdA0 ndA0 imP inP imS imB imO imR imA inA imH ihs)) (xV (X := []) (Y := []) (As := [.int x1, .int x2]) (rest := []) hC (c_X8_bestRule l hst D cy aI aT adP adS adB adO adR adA aP aS aB aO aR aA aH ah x1 x2 imT imdP indP imdS imdB imdO imdR imdA indA imP inP imS imB imO imR imA inA imH ihs k0 r0 mdP0 ndP0 mdS0 mdB0 mdO0 mdR0 mdA0 ndA0 hc) (cwV 2 hts gL_bestRule_X8_bestRule rfl rfl rfl cd_X8_bestRule ⟨Nat.le_of_ble_eq_true rfl, Nat.le_of_ble_eq_true rfl⟩) hK hN hP hD hS hA rfl 0 8 rfl rfl rfl hl.1 rfl (lv_room (Nat.le_of_ble_eq_true rfl)) dL_bestRule_3 ⟨Nat.le_of_ble_eq_true rfl, Nat.le_of_ble_eq_true rfl⟩) hP hD hS hA rfl rfl rfl (fun hk0 H locs ce q9 hP hD hS hce hcv hcl => ?_) (fun hk0 H locs hP hD hS => ?_)
  · replace hE := it_f hE hk0
    by_cases c1 : k0 = 1
    · replace hE := it_t hE c1
      have hE := Option.some.inj hE
      obtain ⟨qq0, hE⟩ := Prod.mk.inj hE
      obtain ⟨qq1, hE⟩ := Prod.mk.inj hE
      obtain ⟨qq2, hE⟩ := Prod.mk.inj hE
      obtain ⟨qq3, hE⟩ := Prod.mk.inj hE
      obtain ⟨qq4, hE⟩ := Prod.mk.inj hE
      obtain ⟨qq5, hE⟩ := Prod.mk.inj hE
      obtain ⟨qq6, hE⟩ := Prod.mk.inj hE
      obtain ⟨qq7, qq8⟩ := Prod.mk.inj hE
      rw [c1] at hcl
      refine kc (k := 1) (pre := []) (suf := [⟨0, 6, 11, 15⟩]) hown ⟨0, 6, 7, 25⟩ htab hX (by decide) (by decide) (fun z hz => absurd hz List.not_mem_nil) rfl (by decide) (hts _ (mC qg_L_25)) hce hcv hcl ?_
      refine W.eq (g2 := F0 m 7 ls [.ref q9]) rfl ?_
      refine lv_astore_n (lv' := [(3, .ref q9), (0, .ref (aI 0)), (1, .int x1), (2, .int x2)]) hx hb dL_bestRule_7 rfl hl (by decide) rfl (fun ls hl => ?_)
      have kq : (Cond.constant RL 27 (-2000001)).before args s = true := hts _ (mC qk_L_27)
      refine lv_ldc hx hb hown kq dL_bestRule_8 ?_
      exact ei hx hb hr hlocks hK hP hD hS qq0 (by rw [qq1, qq2, qq3, qq4, qq5, qq6, qq7, qq8]) dL_bestRule_10
    · replace hE := it_f hE c1
      by_cases c2 : k0 = 2
      · replace hE := it_t hE c2
        have hE := Option.some.inj hE
        obtain ⟨qq0, hE⟩ := Prod.mk.inj hE
        obtain ⟨qq1, hE⟩ := Prod.mk.inj hE
        obtain ⟨qq2, hE⟩ := Prod.mk.inj hE
        obtain ⟨qq3, hE⟩ := Prod.mk.inj hE
        obtain ⟨qq4, hE⟩ := Prod.mk.inj hE
        obtain ⟨qq5, hE⟩ := Prod.mk.inj hE
        obtain ⟨qq6, hE⟩ := Prod.mk.inj hE
        obtain ⟨qq7, qq8⟩ := Prod.mk.inj hE
        rw [c2] at hcl
        refine kc (k := 2) (pre := [⟨0, 6, 7, 25⟩]) (suf := []) hown ⟨0, 6, 11, 15⟩ htab hX (by decide) (by decide) (fun z hz => by
        rcases List.mem_singleton.mp hz with rfl
        · exact ⟨by decide, 1, by decide, by decide, by decide, hts _ (mC qg_L_25)⟩) rfl (by decide) (hts _ (mC qg_L_15)) hce hcv hcl ?_
        refine W.eq (g2 := F0 m 11 ls [.ref q9]) rfl ?_
        refine lv_astore_n (lv' := [(3, .ref q9), (0, .ref (aI 0)), (1, .int x1), (2, .int x2)]) hx hb dL_bestRule_11 rfl hl (by decide) rfl (fun ls hl => ?_)
        have kq : (Cond.constant RL 17 (-2000002)).before args s = true := hts _ (mC qk_L_17)
        refine lv_ldc hx hb hown kq dL_bestRule_12 ?_
        exact ei hx hb hr hlocks hK hP hD hS qq0 (by rw [qq1, qq2, qq3, qq4, qq5, qq6, qq7, qq8]) dL_bestRule_14
      · replace hE := it_f hE c2
        exact absurd hE (fun h9 => nomatch h9)
  · replace hE := it_t hE hk0
    have hE := Option.some.inj hE
    obtain ⟨qq0, hE⟩ := Prod.mk.inj hE
    obtain ⟨qq1, hE⟩ := Prod.mk.inj hE
    obtain ⟨qq2, hE⟩ := Prod.mk.inj hE
    obtain ⟨qq3, hE⟩ := Prod.mk.inj hE
    obtain ⟨qq4, hE⟩ := Prod.mk.inj hE
    obtain ⟨qq5, hE⟩ := Prod.mk.inj hE
    obtain ⟨qq6, hE⟩ := Prod.mk.inj hE
    obtain ⟨qq7, qq8⟩ := Prod.mk.inj hE
    exact ei hx hb hr hlocks hK hP hD hS qq0 (by rw [qq1, qq2, qq3, qq4, qq5, qq6, qq7, qq8]) dL_bestRule_6
abbrev rm_L_quote : Room := { frames := 9, cells := 3, slots := 18, locals := 145 }
set_option maxHeartbeats 40000000 in
set_option maxRecDepth 100000 in
theorem c_L_quote (l : Launch) (hst : l.stackTraces = false) (D : va_G) (cy : Nat → Nat) (aI aT adP adS adB adO adR adA aP aS aB aO aR aA aH : Nat → Nat) (ah : Nat → Nat → Nat → Nat) (x1 x2 x3 : Int32) (imT : Mem) (imdP : Mem) (indP : MemL) (imdS : Mem) (imdB : Mem) (imdO : Mem) (imdR : Mem) (imdA : Mem) (indA : MemL) (imP : Mem) (inP : MemL) (imS : Mem) (imB : Mem) (imO : Mem) (imR : Mem) (imA : Mem) (inA : MemL) (imH : Mem) (ihs : (Nat → PSt)) (r' : Int32)  (hE : f_L_quote x1 x2 x3 imT imdP indP imdS imdB imdO imdR imdA indA imP inP imS imB imO imR imA inA imH ihs = some r') : CH l yL_quote wsL_quote rm_L_quote D cy [.ref (aI 0), .int x1, .int x2, .int x3] (W_All cy aI aT adP adS adB adO adR adA aP aS aB aO aR aA aH ah imT imdP indP imdS imdB imdO imdR imdA indA imP inP imS imB imO imR imA inA imH ihs) 3 18 (QI D cy r' (W_All cy aI aT adP adS adB adO adR adA aP aS aB aO aR aA aH ah imT imdP indP imdS imdB imdO imdR imdA indA imP inP imS imB imO imR imA inA imH ihs)) := by
  refine CH_of (cc := cL_quote) (maxL := 5) (ret := (some .int)) (hh := [(0, 7, 8, 25), (0, 7, 13, 15)]) (by decide) rfl (Nat.le_of_ble_eq_true rfl) (fun p e s m args below meth c A ls hx hb hr hml hlocks hown hts hA htab hK hN hX hP hD hS hl => ?_)
  have hown : s.vm.findClass RL = some m.cls := hown
  have hl : lv_has ls 5 [(0, .ref (aI 0)), (1, .int x1), (2, .int x2), (3, .int x3)] := hl
  have hC : CallFix p m c cL_quote 5 s args wsL_quote RL := ⟨hx, hb, hml, hown, hts⟩
  unfold f_L_quote at hE
  obtain ⟨k0, r0, hc, hE⟩ := bd2_el hE
  refine lv_aload_n hx hb dL_quote_0 rfl (lv_at hl 0 rfl) ?_
  refine lv_iload_n hx hb dL_quote_1 rfl (lv_at hl 1 rfl) ?_
  refine lv_iload_n hx hb dL_quote_2 rfl (lv_at hl 2 rfl) ?_
  refine lv_iload_n hx hb dL_quote_3 rfl (lv_at hl 3 rfl) ?_
  refine kxi (X := []) (Y := []) (ws1 := (W_All cy aI aT adP adS adB adO adR adA aP aS aB aO aR aA aH ah imT imdP indP imdS imdB imdO imdR imdA indA imP inP imS imB imO imR imA inA imH ihs)) (xV (X := []) (Y := []) (As := [.int x1, .int x2, .int x3]) (rest := []) hC (c_X8_quote l hst D cy aI aT adP adS adB adO adR adA aP aS aB aO aR aA aH ah x1 x2 x3 imT imdP indP imdS imdB imdO imdR imdA indA imP inP imS imB imO imR imA inA imH ihs k0 r0 hc) (cwV 3 hts gL_quote_X8_quote rfl rfl rfl cd_X8_quote ⟨Nat.le_of_ble_eq_true rfl, Nat.le_of_ble_eq_true rfl⟩) hK hN hP hD hS hA rfl 0 8 rfl rfl rfl hl.1 rfl (lv_room (Nat.le_of_ble_eq_true rfl)) dL_quote_4 ⟨Nat.le_of_ble_eq_true rfl, Nat.le_of_ble_eq_true rfl⟩) hP hD hS hA rfl rfl rfl (fun hk0 H locs ce q9 hP hD hS hce hcv hcl => ?_) (fun hk0 H locs hP hD hS => ?_)
  · replace hE := it_f hE hk0
    by_cases c1 : k0 = 1
    · replace hE := it_t hE c1
      have hE := Option.some.inj hE
      rw [c1] at hcl
      refine kc (k := 1) (pre := []) (suf := [⟨0, 7, 13, 15⟩]) hown ⟨0, 7, 8, 25⟩ htab hX (by decide) (by decide) (fun z hz => absurd hz List.not_mem_nil) rfl (by decide) (hts _ (mC qg_L_25)) hce hcv hcl ?_
      refine W.eq (g2 := F0 m 8 ls [.ref q9]) rfl ?_
      refine lv_astore (lv' := [(4, .ref q9), (0, .ref (aI 0)), (1, .int x1), (2, .int x2), (3, .int x3)]) hx hb dL_quote_8 hl (by decide) rfl (fun ls hl => ?_)
      have kq : (Cond.constant RL 27 (-2000001)).before args s = true := hts _ (mC qk_L_27)
      refine lv_ldc hx hb hown kq dL_quote_10 ?_
      exact ei hx hb hr hlocks hK hP hD hS hE rfl dL_quote_12
    · replace hE := it_f hE c1
      by_cases c2 : k0 = 2
      · replace hE := it_t hE c2
        have hE := Option.some.inj hE
        rw [c2] at hcl
        refine kc (k := 2) (pre := [⟨0, 7, 8, 25⟩]) (suf := []) hown ⟨0, 7, 13, 15⟩ htab hX (by decide) (by decide) (fun z hz => by
        rcases List.mem_singleton.mp hz with rfl
        · exact ⟨by decide, 1, by decide, by decide, by decide, hts _ (mC qg_L_25)⟩) rfl (by decide) (hts _ (mC qg_L_15)) hce hcv hcl ?_
        refine W.eq (g2 := F0 m 13 ls [.ref q9]) rfl ?_
        refine lv_astore (lv' := [(4, .ref q9), (0, .ref (aI 0)), (1, .int x1), (2, .int x2), (3, .int x3)]) hx hb dL_quote_13 hl (by decide) rfl (fun ls hl => ?_)
        have kq : (Cond.constant RL 17 (-2000002)).before args s = true := hts _ (mC qk_L_17)
        refine lv_ldc hx hb hown kq dL_quote_15 ?_
        exact ei hx hb hr hlocks hK hP hD hS hE rfl dL_quote_17
      · replace hE := it_f hE c2
        exact absurd hE (fun h9 => nomatch h9)
  · replace hE := it_t hE hk0
    have hE := Option.some.inj hE
    exact ei hx hb hr hlocks hK hP hD hS hE rfl dL_quote_7
abbrev rm_L_undo : Room := { frames := 9, cells := 1, slots := 6, locals := 142 }
set_option maxHeartbeats 40000000 in
set_option maxRecDepth 100000 in
theorem c_L_undo (l : Launch) (hst : l.stackTraces = false) (D : va_G) (cy : Nat → Nat) (aI aT adP adS adB adO adR adA aP aS aB aO aR aA aH : Nat → Nat) (ah : Nat → Nat → Nat → Nat) (imT : Mem) (imdP : Mem) (indP : MemL) (imdS : Mem) (imdB : Mem) (imdO : Mem) (imdR : Mem) (imdA : Mem) (indA : MemL) (imP : Mem) (inP : MemL) (imS : Mem) (imB : Mem) (imO : Mem) (imR : Mem) (imA : Mem) (inA : MemL) (imH : Mem) (ihs : (Nat → PSt)) (r' : Int32) (mP' : Mem) (nP' : MemL) (mS' : Mem) (mB' : Mem) (mO' : Mem) (mR' : Mem) (mA' : Mem) (nA' : MemL) (mH' : Mem) (hE : f_L_undo imT imdP indP imdS imdB imdO imdR imdA indA imP inP imS imB imO imR imA inA imH ihs = some (r', mP', nP', mS', mB', mO', mR', mA', nA', mH')) : CH l yL_undo wsL_undo rm_L_undo D cy [.ref (aI 0)] (W_All cy aI aT adP adS adB adO adR adA aP aS aB aO aR aA aH ah imT imdP indP imdS imdB imdO imdR imdA indA imP inP imS imB imO imR imA inA imH ihs) 1 6 (QI D cy r' (W_All cy aI aT adP adS adB adO adR adA aP aS aB aO aR aA aH ah imT imdP indP imdS imdB imdO imdR imdA indA mP' nP' mS' mB' mO' mR' mA' nA' mH' ihs)) := by
  refine CH_of (cc := cL_undo) (maxL := 2) (ret := (some .int)) (hh := [(0, 4, 5, 18)]) (by decide) rfl (Nat.le_of_ble_eq_true rfl) (fun p e s m args below meth c A ls hx hb hr hml hlocks hown hts hA htab hK hN hX hP hD hS hl => ?_)
  have hown : s.vm.findClass RL = some m.cls := hown
  have hl : lv_has ls 2 [(0, .ref (aI 0))] := hl
  have hC : CallFix p m c cL_undo 2 s args wsL_undo RL := ⟨hx, hb, hml, hown, hts⟩
  unfold f_L_undo at hE
  obtain ⟨k0, r0, mP0, nP0, mS0, mB0, mO0, mR0, mA0, nA0, mH0, hc, hE⟩ := bd11_el hE
  refine lv_aload_n hx hb dL_undo_0 rfl (lv_at hl 0 rfl) ?_
  refine kxi (X := []) (Y := []) (ws1 := (W_All cy aI aT adP adS adB adO adR adA aP aS aB aO aR aA aH ah imT imdP indP imdS imdB imdO imdR imdA indA mP0 nP0 mS0 mB0 mO0 mR0 mA0 nA0 mH0 ihs)) (xV (X := []) (Y := []) (As := []) (rest := []) hC (c_X8_undo l hst D cy aI aT adP adS adB adO adR adA aP aS aB aO aR aA aH ah imT imdP indP imdS imdB imdO imdR imdA indA imP inP imS imB imO imR imA inA imH ihs k0 r0 mP0 nP0 mS0 mB0 mO0 mR0 mA0 nA0 mH0 hc) (cwV 0 hts gL_undo_X8_undo rfl rfl rfl cd_X8_undo ⟨Nat.le_of_ble_eq_true rfl, Nat.le_of_ble_eq_true rfl⟩) hK hN hP hD hS hA rfl 0 8 rfl rfl rfl hl.1 rfl (lv_room (Nat.le_of_ble_eq_true rfl)) dL_undo_1 ⟨Nat.le_of_ble_eq_true rfl, Nat.le_of_ble_eq_true rfl⟩) hP hD hS hA rfl rfl rfl (fun hk0 H locs ce q9 hP hD hS hce hcv hcl => ?_) (fun hk0 H locs hP hD hS => ?_)
  · replace hE := it_f hE hk0
    by_cases c3 : k0 = 3
    · replace hE := it_t hE c3
      have hE := Option.some.inj hE
      obtain ⟨qq0, hE⟩ := Prod.mk.inj hE
      obtain ⟨qq1, hE⟩ := Prod.mk.inj hE
      obtain ⟨qq2, hE⟩ := Prod.mk.inj hE
      obtain ⟨qq3, hE⟩ := Prod.mk.inj hE
      obtain ⟨qq4, hE⟩ := Prod.mk.inj hE
      obtain ⟨qq5, hE⟩ := Prod.mk.inj hE
      obtain ⟨qq6, hE⟩ := Prod.mk.inj hE
      obtain ⟨qq7, hE⟩ := Prod.mk.inj hE
      obtain ⟨qq8, qq9⟩ := Prod.mk.inj hE
      rw [c3] at hcl
      refine kc (k := 3) (pre := []) (suf := []) hown ⟨0, 4, 5, 18⟩ htab hX (by decide) (by decide) (fun z hz => absurd hz List.not_mem_nil) rfl (by decide) (hts _ (mC qg_L_18)) hce hcv hcl ?_
      refine W.eq (g2 := F0 m 5 ls [.ref q9]) rfl ?_
      refine lv_astore_n (lv' := [(1, .ref q9), (0, .ref (aI 0))]) hx hb dL_undo_5 rfl hl (by decide) rfl (fun ls hl => ?_)
      have kq : (Cond.constant RL 20 (-2000003)).before args s = true := hts _ (mC qk_L_20)
      refine lv_ldc hx hb hown kq dL_undo_6 ?_
      exact ei hx hb hr hlocks hK hP hD hS qq0 (by rw [qq1, qq2, qq3, qq4, qq5, qq6, qq7, qq8, qq9]) dL_undo_8
    · replace hE := it_f hE c3
      exact absurd hE (fun h9 => nomatch h9)
  · replace hE := it_t hE hk0
    have hE := Option.some.inj hE
    obtain ⟨qq0, hE⟩ := Prod.mk.inj hE
    obtain ⟨qq1, hE⟩ := Prod.mk.inj hE
    obtain ⟨qq2, hE⟩ := Prod.mk.inj hE
    obtain ⟨qq3, hE⟩ := Prod.mk.inj hE
    obtain ⟨qq4, hE⟩ := Prod.mk.inj hE
    obtain ⟨qq5, hE⟩ := Prod.mk.inj hE
    obtain ⟨qq6, hE⟩ := Prod.mk.inj hE
    obtain ⟨qq7, hE⟩ := Prod.mk.inj hE
    obtain ⟨qq8, qq9⟩ := Prod.mk.inj hE
    exact ei hx hb hr hlocks hK hP hD hS qq0 (by rw [qq1, qq2, qq3, qq4, qq5, qq6, qq7, qq8, qq9]) dL_undo_4
abbrev rm_L_total_N : Room := { frames := 4, cells := 0, slots := 0, locals := 89 }
set_option maxHeartbeats 40000000 in
set_option maxRecDepth 100000 in
theorem c_L_total_N (l : Launch) (D : va_G) (cy : Nat → Nat) (aI aT adP adS adB adO adR adA aP aS aB aO aR aA aH : Nat → Nat) (ah : Nat → Nat → Nat → Nat) (x1 : Int32) (imT : Mem) (imdP : Mem) (indP : MemL) (imdS : Mem) (imdB : Mem) (imdO : Mem) (imdR : Mem) (imdA : Mem) (indA : MemL) (imP : Mem) (inP : MemL) (imS : Mem) (imB : Mem) (imO : Mem) (imR : Mem) (imA : Mem) (inA : MemL) (imH : Mem) (ihs : (Nat → PSt)) (r' : Int64)  (hE : f_L_total_N x1 imT imdP indP imdS imdB imdO imdR imdA indA imP inP imS imB imO imR imA inA imH ihs = some r') : CH l yL_total wsL_total rm_L_total_N D cy [.ref (aI 0), .int x1] (W_All cy aI aT adP adS adB adO adR adA aP aS aB aO aR aA aH ah imT imdP indP imdS imdB imdO imdR imdA indA imP inP imS imB imO imR imA inA imH ihs) 0 0 (QL D cy r' (W_All cy aI aT adP adS adB adO adR adA aP aS aB aO aR aA aH ah imT imdP indP imdS imdB imdO imdR imdA indA imP inP imS imB imO imR imA inA imH ihs)) := by
  refine CH_of (cc := cL_total) (maxL := 3) (ret := (some .long)) (hh := [(0, 5, 6, 15)]) (by decide) rfl (Nat.le_of_ble_eq_true rfl) (fun p e s m args below meth c A ls hx hb hr hml hlocks hown hts hA htab hK hN hX hP hD hS hl => ?_)
  have hown : s.vm.findClass RL = some m.cls := hown
  have hl : lv_has ls 3 [(0, .ref (aI 0)), (1, .int x1)] := hl
  have hC : CallFix p m c cL_total 3 s args wsL_total RL := ⟨hx, hb, hml, hown, hts⟩
  unfold f_L_total_N at hE
  refine lv_aload_n hx hb dL_total_0 rfl (lv_at hl 0 rfl) ?_
  refine lv_iload_n hx hb dL_total_1 rfl (lv_at hl 1 rfl) ?_
  refine kl (X := []) (Y := []) (ws1 := (W_All cy aI aT adP adS adB adO adR adA aP aS aB aO aR aA aH ah imT imdP indP imdS imdB imdO imdR imdA indA imP inP imS imB imO imR imA inA imH ihs)) (rV (X := []) (Y := []) (As := [.int x1]) (rest := []) hC (c_X8_total_N l D cy aI aT adP adS adB adO adR adA aP aS aB aO aR aA aH ah x1 imT imdP indP imdS imdB imdO imdR imdA indA imP inP imS imB imO imR imA inA imH ihs r' hE) (cwV 1 hts gL_total_X8_total rfl rfl rfl cd_X8_total ⟨Nat.le_of_ble_eq_true rfl, Nat.le_of_ble_eq_true rfl⟩) hK hN hP hD hS hA rfl 0 8 rfl rfl rfl hl.1 rfl (lv_room (Nat.le_of_ble_eq_true rfl)) dL_total_2 ⟨Nat.le_of_ble_eq_true rfl, Nat.le_of_ble_eq_true rfl⟩) hP hD hS hA rfl rfl rfl (fun H locs hP hD hS => ?_)
  exact el hx hb hr hlocks hK hP hD hS rfl rfl dL_total_5
abbrev rm_L_account_N : Room := { frames := 3, cells := 0, slots := 0, locals := 62 }
set_option maxHeartbeats 40000000 in
set_option maxRecDepth 100000 in
theorem c_L_account_N (l : Launch) (D : va_G) (cy : Nat → Nat) (aI aT adP adS adB adO adR adA aP aS aB aO aR aA aH : Nat → Nat) (ah : Nat → Nat → Nat → Nat) (x1 x2 : Int32) (imT : Mem) (imdP : Mem) (indP : MemL) (imdS : Mem) (imdB : Mem) (imdO : Mem) (imdR : Mem) (imdA : Mem) (indA : MemL) (imP : Mem) (inP : MemL) (imS : Mem) (imB : Mem) (imO : Mem) (imR : Mem) (imA : Mem) (inA : MemL) (imH : Mem) (ihs : (Nat → PSt)) (r' : Int64)  (hE : f_L_account_N x1 x2 imT imdP indP imdS imdB imdO imdR imdA indA imP inP imS imB imO imR imA inA imH ihs = some r') : CH l yL_account wsL_account rm_L_account_N D cy [.ref (aI 0), .int x1, .int x2] (W_All cy aI aT adP adS adB adO adR adA aP aS aB aO aR aA aH ah imT imdP indP imdS imdB imdO imdR imdA indA imP inP imS imB imO imR imA inA imH ihs) 0 0 (QL D cy r' (W_All cy aI aT adP adS adB adO adR adA aP aS aB aO aR aA aH ah imT imdP indP imdS imdB imdO imdR imdA indA imP inP imS imB imO imR imA inA imH ihs)) := by
  refine CH_of (cc := cL_account) (maxL := 4) (ret := (some .long)) (hh := [(0, 6, 7, 25), (0, 6, 12, 15)]) (by decide) rfl (Nat.le_of_ble_eq_true rfl) (fun p e s m args below meth c A ls hx hb hr hml hlocks hown hts hA htab hK hN hX hP hD hS hl => ?_)
  have hown : s.vm.findClass RL = some m.cls := hown
  have hl : lv_has ls 4 [(0, .ref (aI 0)), (1, .int x1), (2, .int x2)] := hl
  have hC : CallFix p m c cL_account 4 s args wsL_account RL := ⟨hx, hb, hml, hown, hts⟩
  unfold f_L_account_N at hE
  refine lv_aload_n hx hb dL_account_0 rfl (lv_at hl 0 rfl) ?_
  refine lv_iload_n hx hb dL_account_1 rfl (lv_at hl 1 rfl) ?_
  refine lv_iload_n hx hb dL_account_2 rfl (lv_at hl 2 rfl) ?_
  refine kl (X := []) (Y := []) (ws1 := (W_All cy aI aT adP adS adB adO adR adA aP aS aB aO aR aA aH ah imT imdP indP imdS imdB imdO imdR imdA indA imP inP imS imB imO imR imA inA imH ihs)) (rV (X := []) (Y := []) (As := [.int x1, .int x2]) (rest := []) hC (c_X8_account_N l D cy aI aT adP adS adB adO adR adA aP aS aB aO aR aA aH ah x1 x2 imT imdP indP imdS imdB imdO imdR imdA indA imP inP imS imB imO imR imA inA imH ihs r' hE) (cwV 2 hts gL_account_X8_account rfl rfl rfl cd_X8_account ⟨Nat.le_of_ble_eq_true rfl, Nat.le_of_ble_eq_true rfl⟩) hK hN hP hD hS hA rfl 0 8 rfl rfl rfl hl.1 rfl (lv_room (Nat.le_of_ble_eq_true rfl)) dL_account_3 ⟨Nat.le_of_ble_eq_true rfl, Nat.le_of_ble_eq_true rfl⟩) hP hD hS hA rfl rfl rfl (fun H locs hP hD hS => ?_)
  exact el hx hb hr hlocks hK hP hD hS rfl rfl dL_account_6
abbrev rm_L_findAccount_N : Room := { frames := 3, cells := 0, slots := 0, locals := 62 }
set_option maxHeartbeats 40000000 in
set_option maxRecDepth 100000 in
theorem c_L_findAccount_N (l : Launch) (D : va_G) (cy : Nat → Nat) (aI aT adP adS adB adO adR adA aP aS aB aO aR aA aH : Nat → Nat) (ah : Nat → Nat → Nat → Nat) (x1 x2 : Int32) (imT : Mem) (imdP : Mem) (indP : MemL) (imdS : Mem) (imdB : Mem) (imdO : Mem) (imdR : Mem) (imdA : Mem) (indA : MemL) (imP : Mem) (inP : MemL) (imS : Mem) (imB : Mem) (imO : Mem) (imR : Mem) (imA : Mem) (inA : MemL) (imH : Mem) (ihs : (Nat → PSt)) (r' : Int32)  (hE : f_L_findAccount_N x1 x2 imT imdP indP imdS imdB imdO imdR imdA indA imP inP imS imB imO imR imA inA imH ihs = some r') : CH l yL_findAccount wsL_findAccount rm_L_findAccount_N D cy [.ref (aI 0), .int x1, .int x2] (W_All cy aI aT adP adS adB adO adR adA aP aS aB aO aR aA aH ah imT imdP indP imdS imdB imdO imdR imdA indA imP inP imS imB imO imR imA inA imH ihs) 0 0 (QI D cy r' (W_All cy aI aT adP adS adB adO adR adA aP aS aB aO aR aA aH ah imT imdP indP imdS imdB imdO imdR imdA indA imP inP imS imB imO imR imA inA imH ihs)) := by
  refine CH_of (cc := cL_findAccount) (maxL := 4) (ret := (some .int)) (hh := [(0, 6, 7, 25), (0, 6, 11, 15)]) (by decide) rfl (Nat.le_of_ble_eq_true rfl) (fun p e s m args below meth c A ls hx hb hr hml hlocks hown hts hA htab hK hN hX hP hD hS hl => ?_)
  have hown : s.vm.findClass RL = some m.cls := hown
  have hl : lv_has ls 4 [(0, .ref (aI 0)), (1, .int x1), (2, .int x2)] := hl
  have hC : CallFix p m c cL_findAccount 4 s args wsL_findAccount RL := ⟨hx, hb, hml, hown, hts⟩
  unfold f_L_findAccount_N at hE
  refine lv_aload_n hx hb dL_findAccount_0 rfl (lv_at hl 0 rfl) ?_
  refine lv_iload_n hx hb dL_findAccount_1 rfl (lv_at hl 1 rfl) ?_
  refine lv_iload_n hx hb dL_findAccount_2 rfl (lv_at hl 2 rfl) ?_
  refine ki (X := []) (Y := []) (ws1 := (W_All cy aI aT adP adS adB adO adR adA aP aS aB aO aR aA aH ah imT imdP indP imdS imdB imdO imdR imdA indA imP inP imS imB imO imR imA inA imH ihs)) (rV (X := []) (Y := []) (As := [.int x1, .int x2]) (rest := []) hC (c_X8_findAccount_N l D cy aI aT adP adS adB adO adR adA aP aS aB aO aR aA aH ah x1 x2 imT imdP indP imdS imdB imdO imdR imdA indA imP inP imS imB imO imR imA inA imH ihs r' hE) (cwV 2 hts gL_findAccount_X8_findAccount rfl rfl rfl cd_X8_findAccount ⟨Nat.le_of_ble_eq_true rfl, Nat.le_of_ble_eq_true rfl⟩) hK hN hP hD hS hA rfl 0 8 rfl rfl rfl hl.1 rfl (lv_room (Nat.le_of_ble_eq_true rfl)) dL_findAccount_3 ⟨Nat.le_of_ble_eq_true rfl, Nat.le_of_ble_eq_true rfl⟩) hP hD hS hA rfl rfl rfl (fun H locs hP hD hS => ?_)
  exact ei hx hb hr hlocks hK hP hD hS rfl rfl dL_findAccount_6
