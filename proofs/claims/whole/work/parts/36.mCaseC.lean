set_option maxHeartbeats 40000000 in
set_option maxRecDepth 100000 in
theorem lc_receipt {p : Program} {l : Launch} (hst : l.stackTraces = false) {e : Env} {s : State} {m : MethodId} {below : List Frame} {meth : Method} {c : Code} {Q : State → Prop} {D : va_G} {cy : Nat → Nat} {b L : Nat} {xs : Nat → Int32} (hx : p.tables.exec = Jvm.exec) (hb : c.code = code) (hml : c.maxLocals = 9) (hown : s.vm.findClass RL = some m.cls) (hts : ∀ w ∈ lwA, w.before #[Value.ref b] s = true) (hXs : va_X b L xs s s.heap) (hbl : b < s.heap.size) (hK : va_K D vwCl (tyl cy) s) (hN : cG cy (LA s) s s.heap) (hX : cX s) {aI aT adP adS adB adO adR adA aP aS aB aO aR aA aH aM : Nat → Nat} {ah : Nat → Nat → Nat → Nat} {bo : Nat} {imT : Mem} {imdP : Mem} {indP : MemL} {imdS : Mem} {imdB : Mem} {imdO : Mem} {imdR : Mem} {imdA : Mem} {indA : MemL} {imP : Mem} {inP : MemL} {imS : Mem} {imB : Mem} {imO : Mem} {imR : Mem} {imA : Mem} {inA : MemL} {imH : Mem} {ihs : (Nat → PSt)} {imM : Mem} {inM : MemL} {o : Nat → Int64} {H : Heap} {locs : List Loc} {ls : Array Slot} {cells slots : Nat} {i4 : Int32} (hP : va_P D vwCl ([(bo, .inl (cy 1, 1, .inr (.inl o)))] ++ ((W_All cy aI aT adP adS adB adO adR adA aP aS aB aO aR aA aH ah imT imdP indP imdS imdB imdO imdR imdA indA imP inP imS imB imO imR imA inA imH ihs) ++ (W_M cy aM imM inM))) H) (hD : va_D (LA s) ([(bo, .inl (cy 1, 1, .inr (.inl o)))] ++ ((W_All cy aI aT adP adS adB adO adR adA aP aS aB aO aR aA aH ah imT imdP indP imdS imdB imdO imdR imdA indA imP inP imS imB imO imR imA inA imH ihs) ++ (W_M cy aM imM inM)))) (hS : va_S (LA s) s.heap H locs) (hl : lv_has ls 9 [(0, .ref b), (1, .ref (aI 0)), (2, .ref (aM 0)), (3, .ref bo), (4, .int i4)]) (hcl : cells + 16 ≤ 601024) (hsl : slots + 96 ≤ 7293034) {x1 : Int32} (e1 : xs (i4 + 1).toNatClampNeg = x1) (v1 : vp_in (i4 + 1) L) {x2 : Int32} (e2 : xs (i4 + 2).toNatClampNeg = x2) (v2 : vp_in (i4 + 2) L) {mM' : Mem} {k' : Nat} {r' rM : Int32} {cd : Int32} (hk : k' = 0 ∧ cd = 0 ∨ k' = 1 ∧ cd = 1 ∨ k' = 2 ∧ cd = 2) (hE8 : f_X8_receipt x1 x2 imT imdP indP imdS imdB imdO imdR imdA indA imP inP imS imB imO imR imA inA imH ihs = some (k', r')) (hE9 : f_X9_receipt x1 x2 imM inM = some (rM, mM')) (hth : mM' 8 0 = cd) (hr : k' = 0 → r' = rM) (kk : ∀ (o' : Nat → Int64) (H1 : Heap) (locs1 : List Loc) (ls1 : Array Slot), va_P D vwCl ([(bo, .inl (cy 1, 1, .inr (.inl o')))] ++ ((W_All cy aI aT adP adS adB adO adR adA aP aS aB aO aR aA aH ah imT imdP indP imdS imdB imdO imdR imdA indA imP inP imS imB imO imR imA inA imH ihs) ++ (W_M cy aM mM' inM))) H1 → va_D (LA s) ([(bo, .inl (cy 1, 1, .inr (.inl o')))] ++ ((W_All cy aI aT adP adS adB adO adR adA aP aS aB aO aR aA aH ah imT imdP indP imdS imdB imdO imdR imdA indA imP inP imS imB imO imR imA inA imH ihs) ++ (W_M cy aM mM' inM))) → va_S (LA s) s.heap H1 locs1 → lv_has ls1 9 [(0, .ref b), (1, .ref (aI 0)), (2, .ref (aM 0)), (3, .ref bo), (4, .int i4)] → W p l e room_1 s m #[Value.ref b] below meth c H1 locs1 (cells + 16) (slots + 96) Q (F0 m 2094 ls1 [])) : W p l e room_1 s m #[Value.ref b] below meth c H locs cells slots Q (F0 m 1296 ls []) := by
  have hA : ∀ q : Nat, s.heap.size ≤ q → LA s q := fun _ h => h
  have hbA : ¬ LA s b := Nat.not_le.mpr hbl
  have hC : CallFix p m c code 9 s #[Value.ref b] lwA RL := ⟨hx, hb, hml, hown, hts⟩
  obtain ⟨o', ho⟩ : ∃ o', (if k' = 0 then vp_updL o 0 (r'.toInt64) else o) = o' := ⟨_, rfl⟩
  refine lv_aload_n hx hb dL_law_1296 rfl (lv_at hl 1 rfl) ?_
  refine lv_aload_n hx hb dL_law_1297 rfl (lv_at hl 0 rfl) ?_
  refine lv_iload hx hb dL_law_1298 (lv_at hl 4 rfl) ?_
  refine lv_iconst (v := 1) hx hb dL_law_1300 (by decide) ?_
  refine lv_iadd hx hb dL_law_1301 ?_
  refine va_sld hx hb hXs hbl hbA hS v1 dL_law_1302 ?_
  refine s_nm e1.symm ?_
  refine lv_aload_n hx hb dL_law_1303 rfl (lv_at hl 0 rfl) ?_
  refine lv_iload hx hb dL_law_1304 (lv_at hl 4 rfl) ?_
  refine lv_iconst (v := 2) hx hb dL_law_1306 (by decide) ?_
  refine lv_iadd hx hb dL_law_1307 ?_
  refine va_sld hx hb hXs hbl hbA hS v2 dL_law_1308 ?_
  refine s_nm e2.symm ?_
  refine lv_aload_n hx hb dL_law_1309 rfl (lv_at hl 3 rfl) ?_
  refine ki (X := []) (Y := (W_M cy aM imM inM)) (ws1 := [(bo, .inl (cy 1, 1, .inr (.inl o')))] ++ ((W_All cy aI aT adP adS adB adO adR adA aP aS aB aO aR aA aH ah imT imdP indP imdS imdB imdO imdR imdA indA imP inP imS imB imO imR imA inA imH ihs) ++ (W_M cy aM imM inM))) (rH (X := []) (Y := (W_M cy aM imM inM)) (As := [.ref (aI 0), .int x1, .int x2, .ref bo]) (rest := []) hC (c_L_receipt l hst D cy aI aT adP adS adB adO adR adA aP aS aB aO aR aA aH ah bo x1 x2 imT imdP indP imdS imdB imdO imdR imdA indA imP inP imS imB imO imR imA inA imH ihs o o' k' r' cd hk ho hE8) (vx_cwSW (hh := [(0, 10, 13, 21), (0, 10, 17, 13)]) 4 hts gL_law_L_receipt rfl rfl rfl (by decide +kernel) ⟨Nat.le_of_ble_eq_true rfl, Nat.le_of_ble_eq_true rfl⟩) hK hN hX hP hD hS hA (asm1 _ _ _) rfl hl.1 rfl (lv_room (Nat.le_of_ble_eq_true rfl)) dL_law_1310 ⟨by show cells + 2 ≤ 601024; omega, by show slots + 12 ≤ 7293034; omega⟩) hP hD hS hA (asm1 _ _ _) (fst_L _ _ (fst_All cy aI aT adP adS adB adO adR adA aP aS aB aO aR aA aH ah imT imdP indP imdS imdB imdO imdR imdA indA imP inP imS imB imO imR imA inA imH ihs imT imdP indP imdS imdB imdO imdR imdA indA imP inP imS imB imO imR imA inA imH ihs)) (asm1 _ _ _).symm (fun H locs hP hD hS => ?_)
  refine lv_istore (lv' := [(5, .int cd), (0, .ref b), (1, .ref (aI 0)), (2, .ref (aM 0)), (3, .ref bo), (4, .int i4)]) hx hb dL_law_1313 hl (by decide) rfl (fun ls hl => ?_)
  refine lv_aload_n hx hb dL_law_1315 rfl (lv_at hl 3 rfl) ?_
  refine lv_aload_n hx hb dL_law_1316 rfl (lv_at hl 1 rfl) ?_
  refine lv_iload hx hb dL_law_1317 (lv_at hl 5 rfl) ?_
  refine lv_iconst (v := 1) hx hb dL_law_1319 (by decide) ?_
  refine lv_iadd hx hb dL_law_1320 ?_
  refine va_sld hx hb hXs hbl hbA hS v1 dL_law_1321 ?_
  refine s_nm e1.symm ?_
  refine lv_aload_n hx hb dL_law_1322 rfl (lv_at hl 1 rfl) ?_
  refine lv_iload hx hb dL_law_1323 (lv_at hl 5 rfl) ?_
  refine lv_iconst (v := 2) hx hb dL_law_1325 (by decide) ?_
  refine lv_iadd hx hb dL_law_1326 ?_
  refine va_sld hx hb hXs hbl hbA hS v2 dL_law_1327 ?_
  refine s_nm e2.symm ?_
  refine ki (X := ([(bo, .inl (cy 1, 1, .inr (.inl o')))] ++ (W_All cy aI aT adP adS adB adO adR adA aP aS aB aO aR aA aH ah imT imdP indP imdS imdB imdO imdR imdA indA imP inP imS imB imO imR imA inA imH ihs))) (Y := []) (ws1 := [(bo, .inl (cy 1, 1, .inr (.inl o')))] ++ ((W_All cy aI aT adP adS adB adO adR adA aP aS aB aO aR aA aH ah imT imdP indP imdS imdB imdO imdR imdA indA imP inP imS imB imO imR imA inA imH ihs) ++ (W_M cy aM mM' inM))) (rV (X := ([(bo, .inl (cy 1, 1, .inr (.inl o')))] ++ (W_All cy aI aT adP adS adB adO adR adA aP aS aB aO aR aA aH ah imT imdP indP imdS imdB imdO imdR imdA indA imP inP imS imB imO imR imA inA imH ihs))) (Y := []) (As := [.int x1, .int x2]) (rest := []) hC (c_X9_receipt l D cy aM x1 x2 imM inM rM mM' hE9) (cwV 2 hts gL_law_X9_receipt rfl rfl rfl cd_X9_receipt ⟨Nat.le_of_ble_eq_true rfl, Nat.le_of_ble_eq_true rfl⟩) hK hN hP hD hS hA (asm2 _ _ _) 0 9 rfl rfl rfl hl.1 rfl (lv_room (Nat.le_of_ble_eq_true rfl)) dL_law_1328 ⟨by show _ ≤ 601024; omega, by show _ ≤ 7293034; omega⟩) hP hD hS hA (asm2 _ _ _) rfl (asm2 _ _ _).symm (fun H locs hP hD hS => ?_)
  refine lv_istore (lv' := [(6, .int rM), (5, .int cd), (0, .ref b), (1, .ref (aI 0)), (2, .ref (aM 0)), (3, .ref bo), (4, .int i4)]) hx hb dL_law_1331 hl (by decide) rfl (fun ls hl => ?_)
  refine lv_aload_n hx hb dL_law_1333 rfl (lv_at hl 4 rfl) ?_
  refine ki (X := ([(bo, .inl (cy 1, 1, .inr (.inl o')))] ++ (W_All cy aI aT adP adS adB adO adR adA aP aS aB aO aR aA aH ah imT imdP indP imdS imdB imdO imdR imdA indA imP inP imS imB imO imR imA inA imH ihs))) (Y := []) (ws1 := [(bo, .inl (cy 1, 1, .inr (.inl o')))] ++ ((W_All cy aI aT adP adS adB adO adR adA aP aS aB aO aR aA aH ah imT imdP indP imdS imdB imdO imdR imdA indA imP inP imS imB imO imR imA inA imH ihs) ++ (W_M cy aM mM' inM))) (rV (X := ([(bo, .inl (cy 1, 1, .inr (.inl o')))] ++ (W_All cy aI aT adP adS adB adO adR adA aP aS aB aO aR aA aH ah imT imdP indP imdS imdB imdO imdR imdA indA imP inP imS imB imO imR imA inA imH ihs))) (Y := []) (As := []) (rest := []) hC (c_X9_thrown l D cy aM mM' inM (mM' 8 0) rfl) (cwV 0 hts gL_law_X9_thrown rfl rfl rfl cd_X9_thrown ⟨Nat.le_of_ble_eq_true rfl, Nat.le_of_ble_eq_true rfl⟩) hK hN hP hD hS hA (asm2 _ _ _) 0 9 rfl rfl rfl hl.1 rfl (lv_room (Nat.le_of_ble_eq_true rfl)) dL_law_1334 ⟨by show _ ≤ 601024; omega, by show _ ≤ 7293034; omega⟩) hP hD hS hA (asm2 _ _ _) rfl (asm2 _ _ _).symm (fun H locs hP hD hS => ?_)
  refine s_nm hth.symm ?_
  refine lv_iload hx hb dL_law_1337 (lv_at hl 1 rfl) ?_
  refine lv_icmp_eq (tgt := 1344) hx hb dL_law_1339 (by decide) (fun _ => ?_) (fun q9 => absurd rfl q9)
  refine lv_iload hx hb dL_law_1344 (lv_at hl 1 rfl) ?_
  refine lv_if_ne (tgt := 1361) hx hb dL_law_1346 (by decide) (fun q9 => ?_) (fun q9 => ?_)
  · refine lv_goto (tgt := 2094) hx hb dL_law_1361 (by decide) ?_
    refine W.widen (k := cells + 16) (n := slots + 96) (by omega) (by omega) ?_
    exact kk o' _ _ _ hP hD hS (lv_sub hl [2, 3, 4, 5, 6] rfl)
  · have hk0 : k' = 0 := by rcases hk with ⟨a, c9⟩ | ⟨a, c9⟩ | ⟨a, c9⟩ <;> first | exact a | exact absurd (q9.symm.trans c9) (by decide)
    have ho0 : o' 0 = rM.toInt64 := by rw [← ho, if_pos hk0, hr hk0]; rfl
    refine lv_aload_n hx hb dL_law_1349 rfl (lv_at hl 5 rfl) ?_
    refine lv_iconst (v := 0) hx hb dL_law_1350 (by decide) ?_
    refine va_lald hx hb hK hP 0 1 rfl rfl (show ¬ ((0 : Int32) < 0 ∨ 1 ≤ (0 : Int32).toNatClampNeg) by decide) dL_law_1351 ?_
    refine s_nmL (y := rM.toInt64) (by rw [← ho0]; rfl) ?_
    refine lv_iload hx hb dL_law_1352 (lv_at hl 0 rfl) ?_
    refine lv_i2l hx hb dL_law_1354 rfl ?_
    refine W.lcmp hx hb dL_law_1355 ?_
    rw [lg_cmp_self]
    refine lv_if_eq (tgt := 1361) hx hb dL_law_1356 (by decide) (fun _ => ?_) (fun q9 => absurd rfl q9)
    refine lv_goto (tgt := 2094) hx hb dL_law_1361 (by decide) ?_
    refine W.widen (k := cells + 16) (n := slots + 96) (by omega) (by omega) ?_
    exact kk o' _ _ _ hP hD hS (lv_sub hl [2, 3, 4, 5, 6] rfl)
set_option maxHeartbeats 40000000 in
set_option maxRecDepth 100000 in
theorem lc_account {p : Program} {l : Launch} (hst : l.stackTraces = false) {e : Env} {s : State} {m : MethodId} {below : List Frame} {meth : Method} {c : Code} {Q : State → Prop} {D : va_G} {cy : Nat → Nat} {b L : Nat} {xs : Nat → Int32} (hx : p.tables.exec = Jvm.exec) (hb : c.code = code) (hml : c.maxLocals = 9) (hown : s.vm.findClass RL = some m.cls) (hts : ∀ w ∈ lwA, w.before #[Value.ref b] s = true) (hXs : va_X b L xs s s.heap) (hbl : b < s.heap.size) (hK : va_K D vwCl (tyl cy) s) (hN : cG cy (LA s) s s.heap) (hX : cX s) {aI aT adP adS adB adO adR adA aP aS aB aO aR aA aH aM : Nat → Nat} {ah : Nat → Nat → Nat → Nat} {bo : Nat} {imT : Mem} {imdP : Mem} {indP : MemL} {imdS : Mem} {imdB : Mem} {imdO : Mem} {imdR : Mem} {imdA : Mem} {indA : MemL} {imP : Mem} {inP : MemL} {imS : Mem} {imB : Mem} {imO : Mem} {imR : Mem} {imA : Mem} {inA : MemL} {imH : Mem} {ihs : (Nat → PSt)} {imM : Mem} {inM : MemL} {o : Nat → Int64} {H : Heap} {locs : List Loc} {ls : Array Slot} {cells slots : Nat} {i4 : Int32} (hP : va_P D vwCl ([(bo, .inl (cy 1, 1, .inr (.inl o)))] ++ ((W_All cy aI aT adP adS adB adO adR adA aP aS aB aO aR aA aH ah imT imdP indP imdS imdB imdO imdR imdA indA imP inP imS imB imO imR imA inA imH ihs) ++ (W_M cy aM imM inM))) H) (hD : va_D (LA s) ([(bo, .inl (cy 1, 1, .inr (.inl o)))] ++ ((W_All cy aI aT adP adS adB adO adR adA aP aS aB aO aR aA aH ah imT imdP indP imdS imdB imdO imdR imdA indA imP inP imS imB imO imR imA inA imH ihs) ++ (W_M cy aM imM inM)))) (hS : va_S (LA s) s.heap H locs) (hl : lv_has ls 9 [(0, .ref b), (1, .ref (aI 0)), (2, .ref (aM 0)), (3, .ref bo), (4, .int i4)]) (hcl : cells + 16 ≤ 601024) (hsl : slots + 96 ≤ 7293034) {x1 : Int32} (e1 : xs (i4 + 1).toNatClampNeg = x1) (v1 : vp_in (i4 + 1) L) {x2 : Int32} (e2 : xs (i4 + 2).toNatClampNeg = x2) (v2 : vp_in (i4 + 2) L) {mM' : Mem} {k' : Nat} {r' rM : Int64} {cd : Int32} (hk : k' = 0 ∧ cd = 0 ∨ k' = 1 ∧ cd = 1 ∨ k' = 2 ∧ cd = 2) (hE8 : f_X8_account x1 x2 imT imdP indP imdS imdB imdO imdR imdA indA imP inP imS imB imO imR imA inA imH ihs = some (k', r')) (hE9 : f_X9_account x1 x2 imM inM = some (rM, mM')) (hth : mM' 8 0 = cd) (hr : k' = 0 → r' = rM) (kk : ∀ (o' : Nat → Int64) (H1 : Heap) (locs1 : List Loc) (ls1 : Array Slot), va_P D vwCl ([(bo, .inl (cy 1, 1, .inr (.inl o')))] ++ ((W_All cy aI aT adP adS adB adO adR adA aP aS aB aO aR aA aH ah imT imdP indP imdS imdB imdO imdR imdA indA imP inP imS imB imO imR imA inA imH ihs) ++ (W_M cy aM mM' inM))) H1 → va_D (LA s) ([(bo, .inl (cy 1, 1, .inr (.inl o')))] ++ ((W_All cy aI aT adP adS adB adO adR adA aP aS aB aO aR aA aH ah imT imdP indP imdS imdB imdO imdR imdA indA imP inP imS imB imO imR imA inA imH ihs) ++ (W_M cy aM mM' inM))) → va_S (LA s) s.heap H1 locs1 → lv_has ls1 9 [(0, .ref b), (1, .ref (aI 0)), (2, .ref (aM 0)), (3, .ref bo), (4, .int i4)] → W p l e room_1 s m #[Value.ref b] below meth c H1 locs1 (cells + 16) (slots + 96) Q (F0 m 2094 ls1 [])) : W p l e room_1 s m #[Value.ref b] below meth c H locs cells slots Q (F0 m 1364 ls []) := by
  have hA : ∀ q : Nat, s.heap.size ≤ q → LA s q := fun _ h => h
  have hbA : ¬ LA s b := Nat.not_le.mpr hbl
  have hC : CallFix p m c code 9 s #[Value.ref b] lwA RL := ⟨hx, hb, hml, hown, hts⟩
  obtain ⟨o', ho⟩ : ∃ o', (if k' = 0 then vp_updL o 0 r' else o) = o' := ⟨_, rfl⟩
  refine lv_aload_n hx hb dL_law_1364 rfl (lv_at hl 1 rfl) ?_
  refine lv_aload_n hx hb dL_law_1365 rfl (lv_at hl 0 rfl) ?_
  refine lv_iload hx hb dL_law_1366 (lv_at hl 4 rfl) ?_
  refine lv_iconst (v := 1) hx hb dL_law_1368 (by decide) ?_
  refine lv_iadd hx hb dL_law_1369 ?_
  refine va_sld hx hb hXs hbl hbA hS v1 dL_law_1370 ?_
  refine s_nm e1.symm ?_
  refine lv_aload_n hx hb dL_law_1371 rfl (lv_at hl 0 rfl) ?_
  refine lv_iload hx hb dL_law_1372 (lv_at hl 4 rfl) ?_
  refine lv_iconst (v := 2) hx hb dL_law_1374 (by decide) ?_
  refine lv_iadd hx hb dL_law_1375 ?_
  refine va_sld hx hb hXs hbl hbA hS v2 dL_law_1376 ?_
  refine s_nm e2.symm ?_
  refine lv_aload_n hx hb dL_law_1377 rfl (lv_at hl 3 rfl) ?_
  refine ki (X := []) (Y := (W_M cy aM imM inM)) (ws1 := [(bo, .inl (cy 1, 1, .inr (.inl o')))] ++ ((W_All cy aI aT adP adS adB adO adR adA aP aS aB aO aR aA aH ah imT imdP indP imdS imdB imdO imdR imdA indA imP inP imS imB imO imR imA inA imH ihs) ++ (W_M cy aM imM inM))) (rH (X := []) (Y := (W_M cy aM imM inM)) (As := [.ref (aI 0), .int x1, .int x2, .ref bo]) (rest := []) hC (c_L_account l hst D cy aI aT adP adS adB adO adR adA aP aS aB aO aR aA aH ah bo x1 x2 imT imdP indP imdS imdB imdO imdR imdA indA imP inP imS imB imO imR imA inA imH ihs o o' k' r' cd hk ho hE8) (vx_cwSW (hh := [(0, 9, 12, 21), (0, 9, 16, 13)]) 4 hts gL_law_L_account rfl rfl rfl (by decide +kernel) ⟨Nat.le_of_ble_eq_true rfl, Nat.le_of_ble_eq_true rfl⟩) hK hN hX hP hD hS hA (asm1 _ _ _) rfl hl.1 rfl (lv_room (Nat.le_of_ble_eq_true rfl)) dL_law_1378 ⟨by show cells + 2 ≤ 601024; omega, by show slots + 12 ≤ 7293034; omega⟩) hP hD hS hA (asm1 _ _ _) (fst_L _ _ (fst_All cy aI aT adP adS adB adO adR adA aP aS aB aO aR aA aH ah imT imdP indP imdS imdB imdO imdR imdA indA imP inP imS imB imO imR imA inA imH ihs imT imdP indP imdS imdB imdO imdR imdA indA imP inP imS imB imO imR imA inA imH ihs)) (asm1 _ _ _).symm (fun H locs hP hD hS => ?_)
  refine lv_istore (lv' := [(5, .int cd), (0, .ref b), (1, .ref (aI 0)), (2, .ref (aM 0)), (3, .ref bo), (4, .int i4)]) hx hb dL_law_1381 hl (by decide) rfl (fun ls hl => ?_)
  refine lv_aload_n hx hb dL_law_1383 rfl (lv_at hl 3 rfl) ?_
  refine lv_aload_n hx hb dL_law_1384 rfl (lv_at hl 1 rfl) ?_
  refine lv_iload hx hb dL_law_1385 (lv_at hl 5 rfl) ?_
  refine lv_iconst (v := 1) hx hb dL_law_1387 (by decide) ?_
  refine lv_iadd hx hb dL_law_1388 ?_
  refine va_sld hx hb hXs hbl hbA hS v1 dL_law_1389 ?_
  refine s_nm e1.symm ?_
  refine lv_aload_n hx hb dL_law_1390 rfl (lv_at hl 1 rfl) ?_
  refine lv_iload hx hb dL_law_1391 (lv_at hl 5 rfl) ?_
  refine lv_iconst (v := 2) hx hb dL_law_1393 (by decide) ?_
  refine lv_iadd hx hb dL_law_1394 ?_
  refine va_sld hx hb hXs hbl hbA hS v2 dL_law_1395 ?_
  refine s_nm e2.symm ?_
  refine kl (X := ([(bo, .inl (cy 1, 1, .inr (.inl o')))] ++ (W_All cy aI aT adP adS adB adO adR adA aP aS aB aO aR aA aH ah imT imdP indP imdS imdB imdO imdR imdA indA imP inP imS imB imO imR imA inA imH ihs))) (Y := []) (ws1 := [(bo, .inl (cy 1, 1, .inr (.inl o')))] ++ ((W_All cy aI aT adP adS adB adO adR adA aP aS aB aO aR aA aH ah imT imdP indP imdS imdB imdO imdR imdA indA imP inP imS imB imO imR imA inA imH ihs) ++ (W_M cy aM mM' inM))) (rV (X := ([(bo, .inl (cy 1, 1, .inr (.inl o')))] ++ (W_All cy aI aT adP adS adB adO adR adA aP aS aB aO aR aA aH ah imT imdP indP imdS imdB imdO imdR imdA indA imP inP imS imB imO imR imA inA imH ihs))) (Y := []) (As := [.int x1, .int x2]) (rest := []) hC (c_X9_account l D cy aM x1 x2 imM inM rM mM' hE9) (cwV 2 hts gL_law_X9_account rfl rfl rfl cd_X9_account ⟨Nat.le_of_ble_eq_true rfl, Nat.le_of_ble_eq_true rfl⟩) hK hN hP hD hS hA (asm2 _ _ _) 0 9 rfl rfl rfl hl.1 rfl (lv_room (Nat.le_of_ble_eq_true rfl)) dL_law_1396 ⟨by show _ ≤ 601024; omega, by show _ ≤ 7293034; omega⟩) hP hD hS hA (asm2 _ _ _) rfl (asm2 _ _ _).symm (fun H locs hP hD hS => ?_)
  refine lv_lstore (lv' := [(6, .long rM), (5, .int cd), (0, .ref b), (1, .ref (aI 0)), (2, .ref (aM 0)), (3, .ref bo), (4, .int i4)]) hx hb dL_law_1399 hl (by decide) rfl (fun ls hl => ?_)
  refine lv_aload_n hx hb dL_law_1401 rfl (lv_at hl 4 rfl) ?_
  refine ki (X := ([(bo, .inl (cy 1, 1, .inr (.inl o')))] ++ (W_All cy aI aT adP adS adB adO adR adA aP aS aB aO aR aA aH ah imT imdP indP imdS imdB imdO imdR imdA indA imP inP imS imB imO imR imA inA imH ihs))) (Y := []) (ws1 := [(bo, .inl (cy 1, 1, .inr (.inl o')))] ++ ((W_All cy aI aT adP adS adB adO adR adA aP aS aB aO aR aA aH ah imT imdP indP imdS imdB imdO imdR imdA indA imP inP imS imB imO imR imA inA imH ihs) ++ (W_M cy aM mM' inM))) (rV (X := ([(bo, .inl (cy 1, 1, .inr (.inl o')))] ++ (W_All cy aI aT adP adS adB adO adR adA aP aS aB aO aR aA aH ah imT imdP indP imdS imdB imdO imdR imdA indA imP inP imS imB imO imR imA inA imH ihs))) (Y := []) (As := []) (rest := []) hC (c_X9_thrown l D cy aM mM' inM (mM' 8 0) rfl) (cwV 0 hts gL_law_X9_thrown rfl rfl rfl cd_X9_thrown ⟨Nat.le_of_ble_eq_true rfl, Nat.le_of_ble_eq_true rfl⟩) hK hN hP hD hS hA (asm2 _ _ _) 0 9 rfl rfl rfl hl.1 rfl (lv_room (Nat.le_of_ble_eq_true rfl)) dL_law_1402 ⟨by show _ ≤ 601024; omega, by show _ ≤ 7293034; omega⟩) hP hD hS hA (asm2 _ _ _) rfl (asm2 _ _ _).symm (fun H locs hP hD hS => ?_)
  refine s_nm hth.symm ?_
  refine lv_iload hx hb dL_law_1405 (lv_at hl 1 rfl) ?_
  refine lv_icmp_eq (tgt := 1412) hx hb dL_law_1407 (by decide) (fun _ => ?_) (fun q9 => absurd rfl q9)
  refine lv_iload hx hb dL_law_1412 (lv_at hl 1 rfl) ?_
  refine lv_if_ne (tgt := 1428) hx hb dL_law_1414 (by decide) (fun q9 => ?_) (fun q9 => ?_)
  · refine lv_goto (tgt := 2094) hx hb dL_law_1428 (by decide) ?_
    refine W.widen (k := cells + 16) (n := slots + 96) (by omega) (by omega) ?_
    exact kk o' _ _ _ hP hD hS (lv_sub hl [2, 3, 4, 5, 6] rfl)
  · have hk0 : k' = 0 := by rcases hk with ⟨a, c9⟩ | ⟨a, c9⟩ | ⟨a, c9⟩ <;> first | exact a | exact absurd (q9.symm.trans c9) (by decide)
    have ho0 : o' 0 = rM := by rw [← ho, if_pos hk0, hr hk0]; rfl
    refine lv_aload_n hx hb dL_law_1417 rfl (lv_at hl 5 rfl) ?_
    refine lv_iconst (v := 0) hx hb dL_law_1418 (by decide) ?_
    refine va_lald hx hb hK hP 0 1 rfl rfl (show ¬ ((0 : Int32) < 0 ∨ 1 ≤ (0 : Int32).toNatClampNeg) by decide) dL_law_1419 ?_
    refine s_nmL (y := rM) (by rw [← ho0]; rfl) ?_
    refine lv_lload hx hb dL_law_1420 (lv_at hl 0 rfl) ?_
    refine W.lcmp hx hb dL_law_1422 ?_
    rw [lg_cmp_self]
    refine lv_if_eq (tgt := 1428) hx hb dL_law_1423 (by decide) (fun _ => ?_) (fun q9 => absurd rfl q9)
    refine lv_goto (tgt := 2094) hx hb dL_law_1428 (by decide) ?_
    refine W.widen (k := cells + 16) (n := slots + 96) (by omega) (by omega) ?_
    exact kk o' _ _ _ hP hD hS (lv_sub hl [2, 3, 4, 5, 6] rfl)
set_option maxHeartbeats 40000000 in
set_option maxRecDepth 100000 in
theorem lc_findAccount {p : Program} {l : Launch} (hst : l.stackTraces = false) {e : Env} {s : State} {m : MethodId} {below : List Frame} {meth : Method} {c : Code} {Q : State → Prop} {D : va_G} {cy : Nat → Nat} {b L : Nat} {xs : Nat → Int32} (hx : p.tables.exec = Jvm.exec) (hb : c.code = code) (hml : c.maxLocals = 9) (hown : s.vm.findClass RL = some m.cls) (hts : ∀ w ∈ lwA, w.before #[Value.ref b] s = true) (hXs : va_X b L xs s s.heap) (hbl : b < s.heap.size) (hK : va_K D vwCl (tyl cy) s) (hN : cG cy (LA s) s s.heap) (hX : cX s) {aI aT adP adS adB adO adR adA aP aS aB aO aR aA aH aM : Nat → Nat} {ah : Nat → Nat → Nat → Nat} {bo : Nat} {imT : Mem} {imdP : Mem} {indP : MemL} {imdS : Mem} {imdB : Mem} {imdO : Mem} {imdR : Mem} {imdA : Mem} {indA : MemL} {imP : Mem} {inP : MemL} {imS : Mem} {imB : Mem} {imO : Mem} {imR : Mem} {imA : Mem} {inA : MemL} {imH : Mem} {ihs : (Nat → PSt)} {imM : Mem} {inM : MemL} {o : Nat → Int64} {H : Heap} {locs : List Loc} {ls : Array Slot} {cells slots : Nat} {i4 : Int32} (hP : va_P D vwCl ([(bo, .inl (cy 1, 1, .inr (.inl o)))] ++ ((W_All cy aI aT adP adS adB adO adR adA aP aS aB aO aR aA aH ah imT imdP indP imdS imdB imdO imdR imdA indA imP inP imS imB imO imR imA inA imH ihs) ++ (W_M cy aM imM inM))) H) (hD : va_D (LA s) ([(bo, .inl (cy 1, 1, .inr (.inl o)))] ++ ((W_All cy aI aT adP adS adB adO adR adA aP aS aB aO aR aA aH ah imT imdP indP imdS imdB imdO imdR imdA indA imP inP imS imB imO imR imA inA imH ihs) ++ (W_M cy aM imM inM)))) (hS : va_S (LA s) s.heap H locs) (hl : lv_has ls 9 [(0, .ref b), (1, .ref (aI 0)), (2, .ref (aM 0)), (3, .ref bo), (4, .int i4)]) (hcl : cells + 16 ≤ 601024) (hsl : slots + 96 ≤ 7293034) {x1 : Int32} (e1 : xs (i4 + 1).toNatClampNeg = x1) (v1 : vp_in (i4 + 1) L) {x2 : Int32} (e2 : xs (i4 + 2).toNatClampNeg = x2) (v2 : vp_in (i4 + 2) L) {mM' : Mem} {k' : Nat} {r' rM : Int32} {cd : Int32} (hk : k' = 0 ∧ cd = 0 ∨ k' = 1 ∧ cd = 1 ∨ k' = 2 ∧ cd = 2) (hE8 : f_X8_findAccount x1 x2 imT imdP indP imdS imdB imdO imdR imdA indA imP inP imS imB imO imR imA inA imH ihs = some (k', r')) (hE9 : f_X9_findAccount x1 x2 imM inM = some (rM, mM')) (hth : mM' 8 0 = cd) (hr : k' = 0 → r' = rM) (kk : ∀ (o' : Nat → Int64) (H1 : Heap) (locs1 : List Loc) (ls1 : Array Slot), va_P D vwCl ([(bo, .inl (cy 1, 1, .inr (.inl o')))] ++ ((W_All cy aI aT adP adS adB adO adR adA aP aS aB aO aR aA aH ah imT imdP indP imdS imdB imdO imdR imdA indA imP inP imS imB imO imR imA inA imH ihs) ++ (W_M cy aM mM' inM))) H1 → va_D (LA s) ([(bo, .inl (cy 1, 1, .inr (.inl o')))] ++ ((W_All cy aI aT adP adS adB adO adR adA aP aS aB aO aR aA aH ah imT imdP indP imdS imdB imdO imdR imdA indA imP inP imS imB imO imR imA inA imH ihs) ++ (W_M cy aM mM' inM))) → va_S (LA s) s.heap H1 locs1 → lv_has ls1 9 [(0, .ref b), (1, .ref (aI 0)), (2, .ref (aM 0)), (3, .ref bo), (4, .int i4)] → W p l e room_1 s m #[Value.ref b] below meth c H1 locs1 (cells + 16) (slots + 96) Q (F0 m 2094 ls1 [])) : W p l e room_1 s m #[Value.ref b] below meth c H locs cells slots Q (F0 m 1431 ls []) := by
  have hA : ∀ q : Nat, s.heap.size ≤ q → LA s q := fun _ h => h
  have hbA : ¬ LA s b := Nat.not_le.mpr hbl
  have hC : CallFix p m c code 9 s #[Value.ref b] lwA RL := ⟨hx, hb, hml, hown, hts⟩
  obtain ⟨o', ho⟩ : ∃ o', (if k' = 0 then vp_updL o 0 (r'.toInt64) else o) = o' := ⟨_, rfl⟩
  refine lv_aload_n hx hb dL_law_1431 rfl (lv_at hl 1 rfl) ?_
  refine lv_aload_n hx hb dL_law_1432 rfl (lv_at hl 0 rfl) ?_
  refine lv_iload hx hb dL_law_1433 (lv_at hl 4 rfl) ?_
  refine lv_iconst (v := 1) hx hb dL_law_1435 (by decide) ?_
  refine lv_iadd hx hb dL_law_1436 ?_
  refine va_sld hx hb hXs hbl hbA hS v1 dL_law_1437 ?_
  refine s_nm e1.symm ?_
  refine lv_aload_n hx hb dL_law_1438 rfl (lv_at hl 0 rfl) ?_
  refine lv_iload hx hb dL_law_1439 (lv_at hl 4 rfl) ?_
  refine lv_iconst (v := 2) hx hb dL_law_1441 (by decide) ?_
  refine lv_iadd hx hb dL_law_1442 ?_
  refine va_sld hx hb hXs hbl hbA hS v2 dL_law_1443 ?_
  refine s_nm e2.symm ?_
  refine lv_aload_n hx hb dL_law_1444 rfl (lv_at hl 3 rfl) ?_
  refine ki (X := []) (Y := (W_M cy aM imM inM)) (ws1 := [(bo, .inl (cy 1, 1, .inr (.inl o')))] ++ ((W_All cy aI aT adP adS adB adO adR adA aP aS aB aO aR aA aH ah imT imdP indP imdS imdB imdO imdR imdA indA imP inP imS imB imO imR imA inA imH ihs) ++ (W_M cy aM imM inM))) (rH (X := []) (Y := (W_M cy aM imM inM)) (As := [.ref (aI 0), .int x1, .int x2, .ref bo]) (rest := []) hC (c_L_findAccount l hst D cy aI aT adP adS adB adO adR adA aP aS aB aO aR aA aH ah bo x1 x2 imT imdP indP imdS imdB imdO imdR imdA indA imP inP imS imB imO imR imA inA imH ihs o o' k' r' cd hk ho hE8) (vx_cwSW (hh := [(0, 10, 13, 21), (0, 10, 17, 13)]) 4 hts gL_law_L_findAccount rfl rfl rfl (by decide +kernel) ⟨Nat.le_of_ble_eq_true rfl, Nat.le_of_ble_eq_true rfl⟩) hK hN hX hP hD hS hA (asm1 _ _ _) rfl hl.1 rfl (lv_room (Nat.le_of_ble_eq_true rfl)) dL_law_1445 ⟨by show cells + 2 ≤ 601024; omega, by show slots + 12 ≤ 7293034; omega⟩) hP hD hS hA (asm1 _ _ _) (fst_L _ _ (fst_All cy aI aT adP adS adB adO adR adA aP aS aB aO aR aA aH ah imT imdP indP imdS imdB imdO imdR imdA indA imP inP imS imB imO imR imA inA imH ihs imT imdP indP imdS imdB imdO imdR imdA indA imP inP imS imB imO imR imA inA imH ihs)) (asm1 _ _ _).symm (fun H locs hP hD hS => ?_)
  refine lv_istore (lv' := [(5, .int cd), (0, .ref b), (1, .ref (aI 0)), (2, .ref (aM 0)), (3, .ref bo), (4, .int i4)]) hx hb dL_law_1448 hl (by decide) rfl (fun ls hl => ?_)
  refine lv_aload_n hx hb dL_law_1450 rfl (lv_at hl 3 rfl) ?_
  refine lv_aload_n hx hb dL_law_1451 rfl (lv_at hl 1 rfl) ?_
  refine lv_iload hx hb dL_law_1452 (lv_at hl 5 rfl) ?_
  refine lv_iconst (v := 1) hx hb dL_law_1454 (by decide) ?_
  refine lv_iadd hx hb dL_law_1455 ?_
  refine va_sld hx hb hXs hbl hbA hS v1 dL_law_1456 ?_
  refine s_nm e1.symm ?_
  refine lv_aload_n hx hb dL_law_1457 rfl (lv_at hl 1 rfl) ?_
  refine lv_iload hx hb dL_law_1458 (lv_at hl 5 rfl) ?_
  refine lv_iconst (v := 2) hx hb dL_law_1460 (by decide) ?_
  refine lv_iadd hx hb dL_law_1461 ?_
  refine va_sld hx hb hXs hbl hbA hS v2 dL_law_1462 ?_
  refine s_nm e2.symm ?_
  refine ki (X := ([(bo, .inl (cy 1, 1, .inr (.inl o')))] ++ (W_All cy aI aT adP adS adB adO adR adA aP aS aB aO aR aA aH ah imT imdP indP imdS imdB imdO imdR imdA indA imP inP imS imB imO imR imA inA imH ihs))) (Y := []) (ws1 := [(bo, .inl (cy 1, 1, .inr (.inl o')))] ++ ((W_All cy aI aT adP adS adB adO adR adA aP aS aB aO aR aA aH ah imT imdP indP imdS imdB imdO imdR imdA indA imP inP imS imB imO imR imA inA imH ihs) ++ (W_M cy aM mM' inM))) (rV (X := ([(bo, .inl (cy 1, 1, .inr (.inl o')))] ++ (W_All cy aI aT adP adS adB adO adR adA aP aS aB aO aR aA aH ah imT imdP indP imdS imdB imdO imdR imdA indA imP inP imS imB imO imR imA inA imH ihs))) (Y := []) (As := [.int x1, .int x2]) (rest := []) hC (c_X9_findAccount l D cy aM x1 x2 imM inM rM mM' hE9) (cwV 2 hts gL_law_X9_findAccount rfl rfl rfl cd_X9_findAccount ⟨Nat.le_of_ble_eq_true rfl, Nat.le_of_ble_eq_true rfl⟩) hK hN hP hD hS hA (asm2 _ _ _) 0 9 rfl rfl rfl hl.1 rfl (lv_room (Nat.le_of_ble_eq_true rfl)) dL_law_1463 ⟨by show _ ≤ 601024; omega, by show _ ≤ 7293034; omega⟩) hP hD hS hA (asm2 _ _ _) rfl (asm2 _ _ _).symm (fun H locs hP hD hS => ?_)
  refine lv_istore (lv' := [(6, .int rM), (5, .int cd), (0, .ref b), (1, .ref (aI 0)), (2, .ref (aM 0)), (3, .ref bo), (4, .int i4)]) hx hb dL_law_1466 hl (by decide) rfl (fun ls hl => ?_)
  refine lv_aload_n hx hb dL_law_1468 rfl (lv_at hl 4 rfl) ?_
  refine ki (X := ([(bo, .inl (cy 1, 1, .inr (.inl o')))] ++ (W_All cy aI aT adP adS adB adO adR adA aP aS aB aO aR aA aH ah imT imdP indP imdS imdB imdO imdR imdA indA imP inP imS imB imO imR imA inA imH ihs))) (Y := []) (ws1 := [(bo, .inl (cy 1, 1, .inr (.inl o')))] ++ ((W_All cy aI aT adP adS adB adO adR adA aP aS aB aO aR aA aH ah imT imdP indP imdS imdB imdO imdR imdA indA imP inP imS imB imO imR imA inA imH ihs) ++ (W_M cy aM mM' inM))) (rV (X := ([(bo, .inl (cy 1, 1, .inr (.inl o')))] ++ (W_All cy aI aT adP adS adB adO adR adA aP aS aB aO aR aA aH ah imT imdP indP imdS imdB imdO imdR imdA indA imP inP imS imB imO imR imA inA imH ihs))) (Y := []) (As := []) (rest := []) hC (c_X9_thrown l D cy aM mM' inM (mM' 8 0) rfl) (cwV 0 hts gL_law_X9_thrown rfl rfl rfl cd_X9_thrown ⟨Nat.le_of_ble_eq_true rfl, Nat.le_of_ble_eq_true rfl⟩) hK hN hP hD hS hA (asm2 _ _ _) 0 9 rfl rfl rfl hl.1 rfl (lv_room (Nat.le_of_ble_eq_true rfl)) dL_law_1469 ⟨by show _ ≤ 601024; omega, by show _ ≤ 7293034; omega⟩) hP hD hS hA (asm2 _ _ _) rfl (asm2 _ _ _).symm (fun H locs hP hD hS => ?_)
  refine s_nm hth.symm ?_
  refine lv_iload hx hb dL_law_1472 (lv_at hl 1 rfl) ?_
  refine lv_icmp_eq (tgt := 1479) hx hb dL_law_1474 (by decide) (fun _ => ?_) (fun q9 => absurd rfl q9)
  refine lv_iload hx hb dL_law_1479 (lv_at hl 1 rfl) ?_
  refine lv_if_ne (tgt := 1496) hx hb dL_law_1481 (by decide) (fun q9 => ?_) (fun q9 => ?_)
  · refine lv_goto (tgt := 2094) hx hb dL_law_1496 (by decide) ?_
    refine W.widen (k := cells + 16) (n := slots + 96) (by omega) (by omega) ?_
    exact kk o' _ _ _ hP hD hS (lv_sub hl [2, 3, 4, 5, 6] rfl)
  · have hk0 : k' = 0 := by rcases hk with ⟨a, c9⟩ | ⟨a, c9⟩ | ⟨a, c9⟩ <;> first | exact a | exact absurd (q9.symm.trans c9) (by decide)
    have ho0 : o' 0 = rM.toInt64 := by rw [← ho, if_pos hk0, hr hk0]; rfl
    refine lv_aload_n hx hb dL_law_1484 rfl (lv_at hl 5 rfl) ?_
    refine lv_iconst (v := 0) hx hb dL_law_1485 (by decide) ?_
    refine va_lald hx hb hK hP 0 1 rfl rfl (show ¬ ((0 : Int32) < 0 ∨ 1 ≤ (0 : Int32).toNatClampNeg) by decide) dL_law_1486 ?_
    refine s_nmL (y := rM.toInt64) (by rw [← ho0]; rfl) ?_
    refine lv_iload hx hb dL_law_1487 (lv_at hl 0 rfl) ?_
    refine lv_i2l hx hb dL_law_1489 rfl ?_
    refine W.lcmp hx hb dL_law_1490 ?_
    rw [lg_cmp_self]
    refine lv_if_eq (tgt := 1496) hx hb dL_law_1491 (by decide) (fun _ => ?_) (fun q9 => absurd rfl q9)
    refine lv_goto (tgt := 2094) hx hb dL_law_1496 (by decide) ?_
    refine W.widen (k := cells + 16) (n := slots + 96) (by omega) (by omega) ?_
    exact kk o' _ _ _ hP hD hS (lv_sub hl [2, 3, 4, 5, 6] rfl)
set_option maxHeartbeats 40000000 in
set_option maxRecDepth 100000 in
theorem lc_setting {p : Program} {l : Launch} (hst : l.stackTraces = false) {e : Env} {s : State} {m : MethodId} {below : List Frame} {meth : Method} {c : Code} {Q : State → Prop} {D : va_G} {cy : Nat → Nat} {b L : Nat} {xs : Nat → Int32} (hx : p.tables.exec = Jvm.exec) (hb : c.code = code) (hml : c.maxLocals = 9) (hown : s.vm.findClass RL = some m.cls) (hts : ∀ w ∈ lwA, w.before #[Value.ref b] s = true) (hXs : va_X b L xs s s.heap) (hbl : b < s.heap.size) (hK : va_K D vwCl (tyl cy) s) (hN : cG cy (LA s) s s.heap) (hX : cX s) {aI aT adP adS adB adO adR adA aP aS aB aO aR aA aH aM : Nat → Nat} {ah : Nat → Nat → Nat → Nat} {bo : Nat} {imT : Mem} {imdP : Mem} {indP : MemL} {imdS : Mem} {imdB : Mem} {imdO : Mem} {imdR : Mem} {imdA : Mem} {indA : MemL} {imP : Mem} {inP : MemL} {imS : Mem} {imB : Mem} {imO : Mem} {imR : Mem} {imA : Mem} {inA : MemL} {imH : Mem} {ihs : (Nat → PSt)} {imM : Mem} {inM : MemL} {o : Nat → Int64} {H : Heap} {locs : List Loc} {ls : Array Slot} {cells slots : Nat} {i4 : Int32} (hP : va_P D vwCl ([(bo, .inl (cy 1, 1, .inr (.inl o)))] ++ ((W_All cy aI aT adP adS adB adO adR adA aP aS aB aO aR aA aH ah imT imdP indP imdS imdB imdO imdR imdA indA imP inP imS imB imO imR imA inA imH ihs) ++ (W_M cy aM imM inM))) H) (hD : va_D (LA s) ([(bo, .inl (cy 1, 1, .inr (.inl o)))] ++ ((W_All cy aI aT adP adS adB adO adR adA aP aS aB aO aR aA aH ah imT imdP indP imdS imdB imdO imdR imdA indA imP inP imS imB imO imR imA inA imH ihs) ++ (W_M cy aM imM inM)))) (hS : va_S (LA s) s.heap H locs) (hl : lv_has ls 9 [(0, .ref b), (1, .ref (aI 0)), (2, .ref (aM 0)), (3, .ref bo), (4, .int i4)]) (hcl : cells + 16 ≤ 601024) (hsl : slots + 96 ≤ 7293034) {x1 : Int32} (e1 : xs (i4 + 1).toNatClampNeg = x1) (v1 : vp_in (i4 + 1) L) {mM' : Mem} {k' : Nat} {r' rM : Int32} {cd : Int32} (hk : k' = 0 ∧ cd = 0 ∨ k' = 1 ∧ cd = 1) (hE8 : f_X8_setting x1 imT imdP indP imdS imdB imdO imdR imdA indA imP inP imS imB imO imR imA inA imH ihs = some (k', r')) (hE9 : f_X9_setting x1 imM inM = some (rM, mM')) (hth : mM' 8 0 = cd) (hr : k' = 0 → r' = rM) (kk : ∀ (o' : Nat → Int64) (H1 : Heap) (locs1 : List Loc) (ls1 : Array Slot), va_P D vwCl ([(bo, .inl (cy 1, 1, .inr (.inl o')))] ++ ((W_All cy aI aT adP adS adB adO adR adA aP aS aB aO aR aA aH ah imT imdP indP imdS imdB imdO imdR imdA indA imP inP imS imB imO imR imA inA imH ihs) ++ (W_M cy aM mM' inM))) H1 → va_D (LA s) ([(bo, .inl (cy 1, 1, .inr (.inl o')))] ++ ((W_All cy aI aT adP adS adB adO adR adA aP aS aB aO aR aA aH ah imT imdP indP imdS imdB imdO imdR imdA indA imP inP imS imB imO imR imA inA imH ihs) ++ (W_M cy aM mM' inM))) → va_S (LA s) s.heap H1 locs1 → lv_has ls1 9 [(0, .ref b), (1, .ref (aI 0)), (2, .ref (aM 0)), (3, .ref bo), (4, .int i4)] → W p l e room_1 s m #[Value.ref b] below meth c H1 locs1 (cells + 16) (slots + 96) Q (F0 m 2094 ls1 [])) : W p l e room_1 s m #[Value.ref b] below meth c H locs cells slots Q (F0 m 1499 ls []) := by
  have hA : ∀ q : Nat, s.heap.size ≤ q → LA s q := fun _ h => h
  have hbA : ¬ LA s b := Nat.not_le.mpr hbl
  have hC : CallFix p m c code 9 s #[Value.ref b] lwA RL := ⟨hx, hb, hml, hown, hts⟩
  obtain ⟨o', ho⟩ : ∃ o', (if k' = 0 then vp_updL o 0 (r'.toInt64) else o) = o' := ⟨_, rfl⟩
  refine lv_aload_n hx hb dL_law_1499 rfl (lv_at hl 1 rfl) ?_
  refine lv_aload_n hx hb dL_law_1500 rfl (lv_at hl 0 rfl) ?_
  refine lv_iload hx hb dL_law_1501 (lv_at hl 4 rfl) ?_
  refine lv_iconst (v := 1) hx hb dL_law_1503 (by decide) ?_
  refine lv_iadd hx hb dL_law_1504 ?_
  refine va_sld hx hb hXs hbl hbA hS v1 dL_law_1505 ?_
  refine s_nm e1.symm ?_
  refine lv_aload_n hx hb dL_law_1506 rfl (lv_at hl 3 rfl) ?_
  refine ki (X := []) (Y := (W_M cy aM imM inM)) (ws1 := [(bo, .inl (cy 1, 1, .inr (.inl o')))] ++ ((W_All cy aI aT adP adS adB adO adR adA aP aS aB aO aR aA aH ah imT imdP indP imdS imdB imdO imdR imdA indA imP inP imS imB imO imR imA inA imH ihs) ++ (W_M cy aM imM inM))) (rH (X := []) (Y := (W_M cy aM imM inM)) (As := [.ref (aI 0), .int x1, .ref bo]) (rest := []) hC (c_L_setting l hst D cy aI aT adP adS adB adO adR adA aP aS aB aO aR aA aH ah bo x1 imT imdP indP imdS imdB imdO imdR imdA indA imP inP imS imB imO imR imA inA imH ihs o o' k' r' cd hk ho hE8) (vx_cwSW (hh := [(0, 9, 12, 21)]) 3 hts gL_law_L_setting rfl rfl rfl (by decide +kernel) ⟨Nat.le_of_ble_eq_true rfl, Nat.le_of_ble_eq_true rfl⟩) hK hN hX hP hD hS hA (asm1 _ _ _) rfl hl.1 rfl (lv_room (Nat.le_of_ble_eq_true rfl)) dL_law_1507 ⟨by show cells + 1 ≤ 601024; omega, by show slots + 6 ≤ 7293034; omega⟩) hP hD hS hA (asm1 _ _ _) (fst_L _ _ (fst_All cy aI aT adP adS adB adO adR adA aP aS aB aO aR aA aH ah imT imdP indP imdS imdB imdO imdR imdA indA imP inP imS imB imO imR imA inA imH ihs imT imdP indP imdS imdB imdO imdR imdA indA imP inP imS imB imO imR imA inA imH ihs)) (asm1 _ _ _).symm (fun H locs hP hD hS => ?_)
  refine lv_istore (lv' := [(5, .int cd), (0, .ref b), (1, .ref (aI 0)), (2, .ref (aM 0)), (3, .ref bo), (4, .int i4)]) hx hb dL_law_1510 hl (by decide) rfl (fun ls hl => ?_)
  refine lv_aload_n hx hb dL_law_1512 rfl (lv_at hl 3 rfl) ?_
  refine lv_aload_n hx hb dL_law_1513 rfl (lv_at hl 1 rfl) ?_
  refine lv_iload hx hb dL_law_1514 (lv_at hl 5 rfl) ?_
  refine lv_iconst (v := 1) hx hb dL_law_1516 (by decide) ?_
  refine lv_iadd hx hb dL_law_1517 ?_
  refine va_sld hx hb hXs hbl hbA hS v1 dL_law_1518 ?_
  refine s_nm e1.symm ?_
  refine ki (X := ([(bo, .inl (cy 1, 1, .inr (.inl o')))] ++ (W_All cy aI aT adP adS adB adO adR adA aP aS aB aO aR aA aH ah imT imdP indP imdS imdB imdO imdR imdA indA imP inP imS imB imO imR imA inA imH ihs))) (Y := []) (ws1 := [(bo, .inl (cy 1, 1, .inr (.inl o')))] ++ ((W_All cy aI aT adP adS adB adO adR adA aP aS aB aO aR aA aH ah imT imdP indP imdS imdB imdO imdR imdA indA imP inP imS imB imO imR imA inA imH ihs) ++ (W_M cy aM mM' inM))) (rV (X := ([(bo, .inl (cy 1, 1, .inr (.inl o')))] ++ (W_All cy aI aT adP adS adB adO adR adA aP aS aB aO aR aA aH ah imT imdP indP imdS imdB imdO imdR imdA indA imP inP imS imB imO imR imA inA imH ihs))) (Y := []) (As := [.int x1]) (rest := []) hC (c_X9_setting l D cy aM x1 imM inM rM mM' hE9) (cwV 1 hts gL_law_X9_setting rfl rfl rfl cd_X9_setting ⟨Nat.le_of_ble_eq_true rfl, Nat.le_of_ble_eq_true rfl⟩) hK hN hP hD hS hA (asm2 _ _ _) 0 9 rfl rfl rfl hl.1 rfl (lv_room (Nat.le_of_ble_eq_true rfl)) dL_law_1519 ⟨by show _ ≤ 601024; omega, by show _ ≤ 7293034; omega⟩) hP hD hS hA (asm2 _ _ _) rfl (asm2 _ _ _).symm (fun H locs hP hD hS => ?_)
  refine lv_istore (lv' := [(6, .int rM), (5, .int cd), (0, .ref b), (1, .ref (aI 0)), (2, .ref (aM 0)), (3, .ref bo), (4, .int i4)]) hx hb dL_law_1522 hl (by decide) rfl (fun ls hl => ?_)
  refine lv_aload_n hx hb dL_law_1524 rfl (lv_at hl 4 rfl) ?_
  refine ki (X := ([(bo, .inl (cy 1, 1, .inr (.inl o')))] ++ (W_All cy aI aT adP adS adB adO adR adA aP aS aB aO aR aA aH ah imT imdP indP imdS imdB imdO imdR imdA indA imP inP imS imB imO imR imA inA imH ihs))) (Y := []) (ws1 := [(bo, .inl (cy 1, 1, .inr (.inl o')))] ++ ((W_All cy aI aT adP adS adB adO adR adA aP aS aB aO aR aA aH ah imT imdP indP imdS imdB imdO imdR imdA indA imP inP imS imB imO imR imA inA imH ihs) ++ (W_M cy aM mM' inM))) (rV (X := ([(bo, .inl (cy 1, 1, .inr (.inl o')))] ++ (W_All cy aI aT adP adS adB adO adR adA aP aS aB aO aR aA aH ah imT imdP indP imdS imdB imdO imdR imdA indA imP inP imS imB imO imR imA inA imH ihs))) (Y := []) (As := []) (rest := []) hC (c_X9_thrown l D cy aM mM' inM (mM' 8 0) rfl) (cwV 0 hts gL_law_X9_thrown rfl rfl rfl cd_X9_thrown ⟨Nat.le_of_ble_eq_true rfl, Nat.le_of_ble_eq_true rfl⟩) hK hN hP hD hS hA (asm2 _ _ _) 0 9 rfl rfl rfl hl.1 rfl (lv_room (Nat.le_of_ble_eq_true rfl)) dL_law_1525 ⟨by show _ ≤ 601024; omega, by show _ ≤ 7293034; omega⟩) hP hD hS hA (asm2 _ _ _) rfl (asm2 _ _ _).symm (fun H locs hP hD hS => ?_)
  refine s_nm hth.symm ?_
  refine lv_iload hx hb dL_law_1528 (lv_at hl 1 rfl) ?_
  refine lv_icmp_eq (tgt := 1535) hx hb dL_law_1530 (by decide) (fun _ => ?_) (fun q9 => absurd rfl q9)
  refine lv_iload hx hb dL_law_1535 (lv_at hl 1 rfl) ?_
  refine lv_if_ne (tgt := 1552) hx hb dL_law_1537 (by decide) (fun q9 => ?_) (fun q9 => ?_)
  · refine lv_goto (tgt := 2094) hx hb dL_law_1552 (by decide) ?_
    refine W.widen (k := cells + 16) (n := slots + 96) (by omega) (by omega) ?_
    exact kk o' _ _ _ hP hD hS (lv_sub hl [2, 3, 4, 5, 6] rfl)
  · have hk0 : k' = 0 := by rcases hk with ⟨a, c9⟩ | ⟨a, c9⟩ <;> first | exact a | exact absurd (q9.symm.trans c9) (by decide)
    have ho0 : o' 0 = rM.toInt64 := by rw [← ho, if_pos hk0, hr hk0]; rfl
    refine lv_aload_n hx hb dL_law_1540 rfl (lv_at hl 5 rfl) ?_
    refine lv_iconst (v := 0) hx hb dL_law_1541 (by decide) ?_
    refine va_lald hx hb hK hP 0 1 rfl rfl (show ¬ ((0 : Int32) < 0 ∨ 1 ≤ (0 : Int32).toNatClampNeg) by decide) dL_law_1542 ?_
    refine s_nmL (y := rM.toInt64) (by rw [← ho0]; rfl) ?_
    refine lv_iload hx hb dL_law_1543 (lv_at hl 0 rfl) ?_
    refine lv_i2l hx hb dL_law_1545 rfl ?_
    refine W.lcmp hx hb dL_law_1546 ?_
    rw [lg_cmp_self]
    refine lv_if_eq (tgt := 1552) hx hb dL_law_1547 (by decide) (fun _ => ?_) (fun q9 => absurd rfl q9)
    refine lv_goto (tgt := 2094) hx hb dL_law_1552 (by decide) ?_
    refine W.widen (k := cells + 16) (n := slots + 96) (by omega) (by omega) ?_
    exact kk o' _ _ _ hP hD hS (lv_sub hl [2, 3, 4, 5, 6] rfl)
set_option maxHeartbeats 40000000 in
set_option maxRecDepth 100000 in
theorem lc_total {p : Program} {l : Launch} (hst : l.stackTraces = false) {e : Env} {s : State} {m : MethodId} {below : List Frame} {meth : Method} {c : Code} {Q : State → Prop} {D : va_G} {cy : Nat → Nat} {b L : Nat} {xs : Nat → Int32} (hx : p.tables.exec = Jvm.exec) (hb : c.code = code) (hml : c.maxLocals = 9) (hown : s.vm.findClass RL = some m.cls) (hts : ∀ w ∈ lwA, w.before #[Value.ref b] s = true) (hXs : va_X b L xs s s.heap) (hbl : b < s.heap.size) (hK : va_K D vwCl (tyl cy) s) (hN : cG cy (LA s) s s.heap) (hX : cX s) {aI aT adP adS adB adO adR adA aP aS aB aO aR aA aH aM : Nat → Nat} {ah : Nat → Nat → Nat → Nat} {bo : Nat} {imT : Mem} {imdP : Mem} {indP : MemL} {imdS : Mem} {imdB : Mem} {imdO : Mem} {imdR : Mem} {imdA : Mem} {indA : MemL} {imP : Mem} {inP : MemL} {imS : Mem} {imB : Mem} {imO : Mem} {imR : Mem} {imA : Mem} {inA : MemL} {imH : Mem} {ihs : (Nat → PSt)} {imM : Mem} {inM : MemL} {o : Nat → Int64} {H : Heap} {locs : List Loc} {ls : Array Slot} {cells slots : Nat} {i4 : Int32} (hP : va_P D vwCl ([(bo, .inl (cy 1, 1, .inr (.inl o)))] ++ ((W_All cy aI aT adP adS adB adO adR adA aP aS aB aO aR aA aH ah imT imdP indP imdS imdB imdO imdR imdA indA imP inP imS imB imO imR imA inA imH ihs) ++ (W_M cy aM imM inM))) H) (hD : va_D (LA s) ([(bo, .inl (cy 1, 1, .inr (.inl o)))] ++ ((W_All cy aI aT adP adS adB adO adR adA aP aS aB aO aR aA aH ah imT imdP indP imdS imdB imdO imdR imdA indA imP inP imS imB imO imR imA inA imH ihs) ++ (W_M cy aM imM inM)))) (hS : va_S (LA s) s.heap H locs) (hl : lv_has ls 9 [(0, .ref b), (1, .ref (aI 0)), (2, .ref (aM 0)), (3, .ref bo), (4, .int i4)]) (hcl : cells + 16 ≤ 601024) (hsl : slots + 96 ≤ 7293034) {x1 : Int32} (e1 : xs (i4 + 1).toNatClampNeg = x1) (v1 : vp_in (i4 + 1) L) {mM' : Mem} {k' : Nat} {r' rM : Int64} {cd : Int32} (hk : k' = 0 ∧ cd = 0 ∨ k' = 2 ∧ cd = 1) (hE8 : f_X8_total x1 imT imdP indP imdS imdB imdO imdR imdA indA imP inP imS imB imO imR imA inA imH ihs = some (k', r')) (hE9 : f_X9_total x1 imM inM = some (rM, mM')) (hth : mM' 8 0 = cd) (hr : k' = 0 → r' = rM) (kk : ∀ (o' : Nat → Int64) (H1 : Heap) (locs1 : List Loc) (ls1 : Array Slot), va_P D vwCl ([(bo, .inl (cy 1, 1, .inr (.inl o')))] ++ ((W_All cy aI aT adP adS adB adO adR adA aP aS aB aO aR aA aH ah imT imdP indP imdS imdB imdO imdR imdA indA imP inP imS imB imO imR imA inA imH ihs) ++ (W_M cy aM mM' inM))) H1 → va_D (LA s) ([(bo, .inl (cy 1, 1, .inr (.inl o')))] ++ ((W_All cy aI aT adP adS adB adO adR adA aP aS aB aO aR aA aH ah imT imdP indP imdS imdB imdO imdR imdA indA imP inP imS imB imO imR imA inA imH ihs) ++ (W_M cy aM mM' inM))) → va_S (LA s) s.heap H1 locs1 → lv_has ls1 9 [(0, .ref b), (1, .ref (aI 0)), (2, .ref (aM 0)), (3, .ref bo), (4, .int i4)] → W p l e room_1 s m #[Value.ref b] below meth c H1 locs1 (cells + 16) (slots + 96) Q (F0 m 2094 ls1 [])) : W p l e room_1 s m #[Value.ref b] below meth c H locs cells slots Q (F0 m 1555 ls []) := by
  have hA : ∀ q : Nat, s.heap.size ≤ q → LA s q := fun _ h => h
  have hbA : ¬ LA s b := Nat.not_le.mpr hbl
  have hC : CallFix p m c code 9 s #[Value.ref b] lwA RL := ⟨hx, hb, hml, hown, hts⟩
  obtain ⟨o', ho⟩ : ∃ o', (if k' = 0 then vp_updL o 0 r' else o) = o' := ⟨_, rfl⟩
  refine lv_aload_n hx hb dL_law_1555 rfl (lv_at hl 1 rfl) ?_
  refine lv_aload_n hx hb dL_law_1556 rfl (lv_at hl 0 rfl) ?_
  refine lv_iload hx hb dL_law_1557 (lv_at hl 4 rfl) ?_
  refine lv_iconst (v := 1) hx hb dL_law_1559 (by decide) ?_
  refine lv_iadd hx hb dL_law_1560 ?_
  refine va_sld hx hb hXs hbl hbA hS v1 dL_law_1561 ?_
  refine s_nm e1.symm ?_
  refine lv_aload_n hx hb dL_law_1562 rfl (lv_at hl 3 rfl) ?_
  refine ki (X := []) (Y := (W_M cy aM imM inM)) (ws1 := [(bo, .inl (cy 1, 1, .inr (.inl o')))] ++ ((W_All cy aI aT adP adS adB adO adR adA aP aS aB aO aR aA aH ah imT imdP indP imdS imdB imdO imdR imdA indA imP inP imS imB imO imR imA inA imH ihs) ++ (W_M cy aM imM inM))) (rH (X := []) (Y := (W_M cy aM imM inM)) (As := [.ref (aI 0), .int x1, .ref bo]) (rest := []) hC (c_L_total l hst D cy aI aT adP adS adB adO adR adA aP aS aB aO aR aA aH ah bo x1 imT imdP indP imdS imdB imdO imdR imdA indA imP inP imS imB imO imR imA inA imH ihs o o' k' r' cd hk ho hE8) (vx_cwSW (hh := [(0, 8, 11, 13)]) 3 hts gL_law_L_total rfl rfl rfl (by decide +kernel) ⟨Nat.le_of_ble_eq_true rfl, Nat.le_of_ble_eq_true rfl⟩) hK hN hX hP hD hS hA (asm1 _ _ _) rfl hl.1 rfl (lv_room (Nat.le_of_ble_eq_true rfl)) dL_law_1563 ⟨by show cells + 1 ≤ 601024; omega, by show slots + 6 ≤ 7293034; omega⟩) hP hD hS hA (asm1 _ _ _) (fst_L _ _ (fst_All cy aI aT adP adS adB adO adR adA aP aS aB aO aR aA aH ah imT imdP indP imdS imdB imdO imdR imdA indA imP inP imS imB imO imR imA inA imH ihs imT imdP indP imdS imdB imdO imdR imdA indA imP inP imS imB imO imR imA inA imH ihs)) (asm1 _ _ _).symm (fun H locs hP hD hS => ?_)
  refine lv_istore (lv' := [(5, .int cd), (0, .ref b), (1, .ref (aI 0)), (2, .ref (aM 0)), (3, .ref bo), (4, .int i4)]) hx hb dL_law_1566 hl (by decide) rfl (fun ls hl => ?_)
  refine lv_aload_n hx hb dL_law_1568 rfl (lv_at hl 3 rfl) ?_
  refine lv_aload_n hx hb dL_law_1569 rfl (lv_at hl 1 rfl) ?_
  refine lv_iload hx hb dL_law_1570 (lv_at hl 5 rfl) ?_
  refine lv_iconst (v := 1) hx hb dL_law_1572 (by decide) ?_
  refine lv_iadd hx hb dL_law_1573 ?_
  refine va_sld hx hb hXs hbl hbA hS v1 dL_law_1574 ?_
  refine s_nm e1.symm ?_
  refine kl (X := ([(bo, .inl (cy 1, 1, .inr (.inl o')))] ++ (W_All cy aI aT adP adS adB adO adR adA aP aS aB aO aR aA aH ah imT imdP indP imdS imdB imdO imdR imdA indA imP inP imS imB imO imR imA inA imH ihs))) (Y := []) (ws1 := [(bo, .inl (cy 1, 1, .inr (.inl o')))] ++ ((W_All cy aI aT adP adS adB adO adR adA aP aS aB aO aR aA aH ah imT imdP indP imdS imdB imdO imdR imdA indA imP inP imS imB imO imR imA inA imH ihs) ++ (W_M cy aM mM' inM))) (rV (X := ([(bo, .inl (cy 1, 1, .inr (.inl o')))] ++ (W_All cy aI aT adP adS adB adO adR adA aP aS aB aO aR aA aH ah imT imdP indP imdS imdB imdO imdR imdA indA imP inP imS imB imO imR imA inA imH ihs))) (Y := []) (As := [.int x1]) (rest := []) hC (c_X9_total l D cy aM x1 imM inM rM mM' hE9) (cwV 1 hts gL_law_X9_total rfl rfl rfl cd_X9_total ⟨Nat.le_of_ble_eq_true rfl, Nat.le_of_ble_eq_true rfl⟩) hK hN hP hD hS hA (asm2 _ _ _) 0 9 rfl rfl rfl hl.1 rfl (lv_room (Nat.le_of_ble_eq_true rfl)) dL_law_1575 ⟨by show _ ≤ 601024; omega, by show _ ≤ 7293034; omega⟩) hP hD hS hA (asm2 _ _ _) rfl (asm2 _ _ _).symm (fun H locs hP hD hS => ?_)
  refine lv_lstore (lv' := [(6, .long rM), (5, .int cd), (0, .ref b), (1, .ref (aI 0)), (2, .ref (aM 0)), (3, .ref bo), (4, .int i4)]) hx hb dL_law_1578 hl (by decide) rfl (fun ls hl => ?_)
  refine lv_aload_n hx hb dL_law_1580 rfl (lv_at hl 4 rfl) ?_
  refine ki (X := ([(bo, .inl (cy 1, 1, .inr (.inl o')))] ++ (W_All cy aI aT adP adS adB adO adR adA aP aS aB aO aR aA aH ah imT imdP indP imdS imdB imdO imdR imdA indA imP inP imS imB imO imR imA inA imH ihs))) (Y := []) (ws1 := [(bo, .inl (cy 1, 1, .inr (.inl o')))] ++ ((W_All cy aI aT adP adS adB adO adR adA aP aS aB aO aR aA aH ah imT imdP indP imdS imdB imdO imdR imdA indA imP inP imS imB imO imR imA inA imH ihs) ++ (W_M cy aM mM' inM))) (rV (X := ([(bo, .inl (cy 1, 1, .inr (.inl o')))] ++ (W_All cy aI aT adP adS adB adO adR adA aP aS aB aO aR aA aH ah imT imdP indP imdS imdB imdO imdR imdA indA imP inP imS imB imO imR imA inA imH ihs))) (Y := []) (As := []) (rest := []) hC (c_X9_thrown l D cy aM mM' inM (mM' 8 0) rfl) (cwV 0 hts gL_law_X9_thrown rfl rfl rfl cd_X9_thrown ⟨Nat.le_of_ble_eq_true rfl, Nat.le_of_ble_eq_true rfl⟩) hK hN hP hD hS hA (asm2 _ _ _) 0 9 rfl rfl rfl hl.1 rfl (lv_room (Nat.le_of_ble_eq_true rfl)) dL_law_1581 ⟨by show _ ≤ 601024; omega, by show _ ≤ 7293034; omega⟩) hP hD hS hA (asm2 _ _ _) rfl (asm2 _ _ _).symm (fun H locs hP hD hS => ?_)
  refine s_nm hth.symm ?_
  refine lv_iload hx hb dL_law_1584 (lv_at hl 1 rfl) ?_
  refine lv_icmp_eq (tgt := 1591) hx hb dL_law_1586 (by decide) (fun _ => ?_) (fun q9 => absurd rfl q9)
  refine lv_iload hx hb dL_law_1591 (lv_at hl 1 rfl) ?_
  refine lv_if_ne (tgt := 1607) hx hb dL_law_1593 (by decide) (fun q9 => ?_) (fun q9 => ?_)
  · refine lv_goto (tgt := 2094) hx hb dL_law_1607 (by decide) ?_
    refine W.widen (k := cells + 16) (n := slots + 96) (by omega) (by omega) ?_
    exact kk o' _ _ _ hP hD hS (lv_sub hl [2, 3, 4, 5, 6] rfl)
  · have hk0 : k' = 0 := by rcases hk with ⟨a, c9⟩ | ⟨a, c9⟩ <;> first | exact a | exact absurd (q9.symm.trans c9) (by decide)
    have ho0 : o' 0 = rM := by rw [← ho, if_pos hk0, hr hk0]; rfl
    refine lv_aload_n hx hb dL_law_1596 rfl (lv_at hl 5 rfl) ?_
    refine lv_iconst (v := 0) hx hb dL_law_1597 (by decide) ?_
    refine va_lald hx hb hK hP 0 1 rfl rfl (show ¬ ((0 : Int32) < 0 ∨ 1 ≤ (0 : Int32).toNatClampNeg) by decide) dL_law_1598 ?_
    refine s_nmL (y := rM) (by rw [← ho0]; rfl) ?_
    refine lv_lload hx hb dL_law_1599 (lv_at hl 0 rfl) ?_
    refine W.lcmp hx hb dL_law_1601 ?_
    rw [lg_cmp_self]
    refine lv_if_eq (tgt := 1607) hx hb dL_law_1602 (by decide) (fun _ => ?_) (fun q9 => absurd rfl q9)
    refine lv_goto (tgt := 2094) hx hb dL_law_1607 (by decide) ?_
    refine W.widen (k := cells + 16) (n := slots + 96) (by omega) (by omega) ?_
    exact kk o' _ _ _ hP hD hS (lv_sub hl [2, 3, 4, 5, 6] rfl)
set_option maxHeartbeats 40000000 in
set_option maxRecDepth 100000 in
theorem lc_meanAge {p : Program} {l : Launch} (hst : l.stackTraces = false) {e : Env} {s : State} {m : MethodId} {below : List Frame} {meth : Method} {c : Code} {Q : State → Prop} {D : va_G} {cy : Nat → Nat} {b L : Nat} {xs : Nat → Int32} (hx : p.tables.exec = Jvm.exec) (hb : c.code = code) (hml : c.maxLocals = 9) (hown : s.vm.findClass RL = some m.cls) (hts : ∀ w ∈ lwA, w.before #[Value.ref b] s = true) (hXs : va_X b L xs s s.heap) (hbl : b < s.heap.size) (hK : va_K D vwCl (tyl cy) s) (hN : cG cy (LA s) s s.heap) (hX : cX s) {aI aT adP adS adB adO adR adA aP aS aB aO aR aA aH aM : Nat → Nat} {ah : Nat → Nat → Nat → Nat} {bo : Nat} {imT : Mem} {imdP : Mem} {indP : MemL} {imdS : Mem} {imdB : Mem} {imdO : Mem} {imdR : Mem} {imdA : Mem} {indA : MemL} {imP : Mem} {inP : MemL} {imS : Mem} {imB : Mem} {imO : Mem} {imR : Mem} {imA : Mem} {inA : MemL} {imH : Mem} {ihs : (Nat → PSt)} {imM : Mem} {inM : MemL} {o : Nat → Int64} {H : Heap} {locs : List Loc} {ls : Array Slot} {cells slots : Nat} {i4 : Int32} (hP : va_P D vwCl ([(bo, .inl (cy 1, 1, .inr (.inl o)))] ++ ((W_All cy aI aT adP adS adB adO adR adA aP aS aB aO aR aA aH ah imT imdP indP imdS imdB imdO imdR imdA indA imP inP imS imB imO imR imA inA imH ihs) ++ (W_M cy aM imM inM))) H) (hD : va_D (LA s) ([(bo, .inl (cy 1, 1, .inr (.inl o)))] ++ ((W_All cy aI aT adP adS adB adO adR adA aP aS aB aO aR aA aH ah imT imdP indP imdS imdB imdO imdR imdA indA imP inP imS imB imO imR imA inA imH ihs) ++ (W_M cy aM imM inM)))) (hS : va_S (LA s) s.heap H locs) (hl : lv_has ls 9 [(0, .ref b), (1, .ref (aI 0)), (2, .ref (aM 0)), (3, .ref bo), (4, .int i4)]) (hcl : cells + 16 ≤ 601024) (hsl : slots + 96 ≤ 7293034) {mM' : Mem} {r' rM : UInt64} (hE8 : f_X8_meanAge imT imdP indP imdS imdB imdO imdR imdA indA imP inP imS imB imO imR imA inA imH ihs = some r') (hE9 : f_X9_meanAge imM inM = some (rM, mM')) (hr : r' = rM) (hnan : FP.dcmp rM rM = some .eq) (kk : ∀ (H1 : Heap) (locs1 : List Loc) (ls1 : Array Slot), va_P D vwCl ([(bo, .inl (cy 1, 1, .inr (.inl o)))] ++ ((W_All cy aI aT adP adS adB adO adR adA aP aS aB aO aR aA aH ah imT imdP indP imdS imdB imdO imdR imdA indA imP inP imS imB imO imR imA inA imH ihs) ++ (W_M cy aM mM' inM))) H1 → va_D (LA s) ([(bo, .inl (cy 1, 1, .inr (.inl o)))] ++ ((W_All cy aI aT adP adS adB adO adR adA aP aS aB aO aR aA aH ah imT imdP indP imdS imdB imdO imdR imdA indA imP inP imS imB imO imR imA inA imH ihs) ++ (W_M cy aM mM' inM))) → va_S (LA s) s.heap H1 locs1 → lv_has ls1 9 [(0, .ref b), (1, .ref (aI 0)), (2, .ref (aM 0)), (3, .ref bo), (4, .int i4)] → W p l e room_1 s m #[Value.ref b] below meth c H1 locs1 (cells + 16) (slots + 96) Q (F0 m 2094 ls1 [])) : W p l e room_1 s m #[Value.ref b] below meth c H locs cells slots Q (F0 m 1610 ls []) := by
  have hA : ∀ q : Nat, s.heap.size ≤ q → LA s q := fun _ h => h
  have hbA : ¬ LA s b := Nat.not_le.mpr hbl
  have hC : CallFix p m c code 9 s #[Value.ref b] lwA RL := ⟨hx, hb, hml, hown, hts⟩
  refine lv_aload_n hx hb dL_law_1610 rfl (lv_at hl 1 rfl) ?_
  refine kd (X := [(bo, .inl (cy 1, 1, .inr (.inl o)))]) (Y := (W_M cy aM imM inM)) (ws1 := [(bo, .inl (cy 1, 1, .inr (.inl o)))] ++ ((W_All cy aI aT adP adS adB adO adR adA aP aS aB aO aR aA aH ah imT imdP indP imdS imdB imdO imdR imdA indA imP inP imS imB imO imR imA inA imH ihs) ++ (W_M cy aM imM inM))) (rV (X := [(bo, .inl (cy 1, 1, .inr (.inl o)))]) (Y := (W_M cy aM imM inM)) (As := []) (rest := []) hC (c_X8_meanAge l D cy aI aT adP adS adB adO adR adA aP aS aB aO aR aA aH ah imT imdP indP imdS imdB imdO imdR imdA indA imP inP imS imB imO imR imA inA imH ihs r' hE8) (cwV 0 hts gL_law_X8_meanAge rfl rfl rfl cd_X8_meanAge ⟨Nat.le_of_ble_eq_true rfl, Nat.le_of_ble_eq_true rfl⟩) hK hN hP hD hS hA rfl 0 8 rfl rfl rfl hl.1 rfl (lv_room (Nat.le_of_ble_eq_true rfl)) dL_law_1611 ⟨by show cells + 0 ≤ 601024; omega, by show slots + 0 ≤ 7293034; omega⟩) hP hD hS hA rfl (fst_All cy aI aT adP adS adB adO adR adA aP aS aB aO aR aA aH ah imT imdP indP imdS imdB imdO imdR imdA indA imP inP imS imB imO imR imA inA imH ihs imT imdP indP imdS imdB imdO imdR imdA indA imP inP imS imB imO imR imA inA imH ihs) rfl (fun H locs hP hD hS => ?_)
  refine lv_dstore (lv' := [(5, .double r'), (0, .ref b), (1, .ref (aI 0)), (2, .ref (aM 0)), (3, .ref bo), (4, .int i4)]) hx hb dL_law_1614 hl (by decide) rfl (fun ls hl => ?_)
  refine lv_aload_n hx hb dL_law_1616 rfl (lv_at hl 3 rfl) ?_
  refine kd (X := ([(bo, .inl (cy 1, 1, .inr (.inl o)))] ++ (W_All cy aI aT adP adS adB adO adR adA aP aS aB aO aR aA aH ah imT imdP indP imdS imdB imdO imdR imdA indA imP inP imS imB imO imR imA inA imH ihs))) (Y := []) (ws1 := [(bo, .inl (cy 1, 1, .inr (.inl o)))] ++ ((W_All cy aI aT adP adS adB adO adR adA aP aS aB aO aR aA aH ah imT imdP indP imdS imdB imdO imdR imdA indA imP inP imS imB imO imR imA inA imH ihs) ++ (W_M cy aM mM' inM))) (rV (X := ([(bo, .inl (cy 1, 1, .inr (.inl o)))] ++ (W_All cy aI aT adP adS adB adO adR adA aP aS aB aO aR aA aH ah imT imdP indP imdS imdB imdO imdR imdA indA imP inP imS imB imO imR imA inA imH ihs))) (Y := []) (As := []) (rest := []) hC (c_X9_meanAge l D cy aM imM inM rM mM' hE9) (cwV 0 hts gL_law_X9_meanAge rfl rfl rfl cd_X9_meanAge ⟨Nat.le_of_ble_eq_true rfl, Nat.le_of_ble_eq_true rfl⟩) hK hN hP hD hS hA (asm2 _ _ _) 0 9 rfl rfl rfl hl.1 rfl (lv_room (Nat.le_of_ble_eq_true rfl)) dL_law_1617 ⟨by show _ ≤ 601024; omega, by show _ ≤ 7293034; omega⟩) hP hD hS hA (asm2 _ _ _) rfl (asm2 _ _ _).symm (fun H locs hP hD hS => ?_)
  refine lv_dstore (lv' := [(7, .double rM), (5, .double r'), (0, .ref b), (1, .ref (aI 0)), (2, .ref (aM 0)), (3, .ref bo), (4, .int i4)]) hx hb dL_law_1620 hl (by decide) rfl (fun ls hl => ?_)
  refine lv_dload hx hb dL_law_1622 (lv_at hl 1 rfl) ?_
  refine lv_dload hx hb dL_law_1624 (lv_at hl 0 rfl) ?_
  refine lv_dcmp hx hb dL_law_1626 ?_
  first | rw [hr, hnan] | rw [hnan]
  refine lv_if_eq (tgt := 1648) hx hb dL_law_1627 (by decide) (fun _ => ?_) (fun q9 => absurd rfl q9)
  refine lv_goto (tgt := 2094) hx hb dL_law_1648 (by decide) ?_
  refine W.widen (k := cells + 16) (n := slots + 96) (by omega) (by omega) ?_
  exact kk _ _ _ hP hD hS (lv_sub hl [2, 3, 4, 5, 6] rfl)
set_option maxHeartbeats 40000000 in
set_option maxRecDepth 100000 in
theorem lc_massAfter {p : Program} {l : Launch} (hst : l.stackTraces = false) {e : Env} {s : State} {m : MethodId} {below : List Frame} {meth : Method} {c : Code} {Q : State → Prop} {D : va_G} {cy : Nat → Nat} {b L : Nat} {xs : Nat → Int32} (hx : p.tables.exec = Jvm.exec) (hb : c.code = code) (hml : c.maxLocals = 9) (hown : s.vm.findClass RL = some m.cls) (hts : ∀ w ∈ lwA, w.before #[Value.ref b] s = true) (hXs : va_X b L xs s s.heap) (hbl : b < s.heap.size) (hK : va_K D vwCl (tyl cy) s) (hN : cG cy (LA s) s s.heap) (hX : cX s) {aI aT adP adS adB adO adR adA aP aS aB aO aR aA aH aM : Nat → Nat} {ah : Nat → Nat → Nat → Nat} {bo : Nat} {imT : Mem} {imdP : Mem} {indP : MemL} {imdS : Mem} {imdB : Mem} {imdO : Mem} {imdR : Mem} {imdA : Mem} {indA : MemL} {imP : Mem} {inP : MemL} {imS : Mem} {imB : Mem} {imO : Mem} {imR : Mem} {imA : Mem} {inA : MemL} {imH : Mem} {ihs : (Nat → PSt)} {imM : Mem} {inM : MemL} {o : Nat → Int64} {H : Heap} {locs : List Loc} {ls : Array Slot} {cells slots : Nat} {i4 : Int32} (hP : va_P D vwCl ([(bo, .inl (cy 1, 1, .inr (.inl o)))] ++ ((W_All cy aI aT adP adS adB adO adR adA aP aS aB aO aR aA aH ah imT imdP indP imdS imdB imdO imdR imdA indA imP inP imS imB imO imR imA inA imH ihs) ++ (W_M cy aM imM inM))) H) (hD : va_D (LA s) ([(bo, .inl (cy 1, 1, .inr (.inl o)))] ++ ((W_All cy aI aT adP adS adB adO adR adA aP aS aB aO aR aA aH ah imT imdP indP imdS imdB imdO imdR imdA indA imP inP imS imB imO imR imA inA imH ihs) ++ (W_M cy aM imM inM)))) (hS : va_S (LA s) s.heap H locs) (hl : lv_has ls 9 [(0, .ref b), (1, .ref (aI 0)), (2, .ref (aM 0)), (3, .ref bo), (4, .int i4)]) (hcl : cells + 16 ≤ 601024) (hsl : slots + 96 ≤ 7293034) {x1 : Int32} (e1 : xs (i4 + 1).toNatClampNeg = x1) (v1 : vp_in (i4 + 1) L) {mdP' : Mem} {ndP' : MemL} {mdS' : Mem} {mdB' : Mem} {mdO' : Mem} {mdR' : Mem} {mdA' : Mem} {ndA' : MemL} {mM' : Mem} {nM' : MemL} {k' : Nat} {r' rM : Int32} {cd : Int32} (hk : k' = 0 ∧ cd = 0 ∨ k' = 2 ∧ cd = 1) (hE8 : f_X8_massAfter x1 imT imdP indP imdS imdB imdO imdR imdA indA imP inP imS imB imO imR imA inA imH ihs = some (k', r', mdP', ndP', mdS', mdB', mdO', mdR', mdA', ndA')) (hE9 : f_X9_massAfter x1 imM inM = some (rM, mM', nM')) (hth : mM' 8 0 = cd) (hr : k' = 0 → r' = rM) (kk : ∀ (o' : Nat → Int64) (H1 : Heap) (locs1 : List Loc) (ls1 : Array Slot), va_P D vwCl ([(bo, .inl (cy 1, 1, .inr (.inl o')))] ++ ((W_All cy aI aT adP adS adB adO adR adA aP aS aB aO aR aA aH ah imT mdP' ndP' mdS' mdB' mdO' mdR' mdA' ndA' imP inP imS imB imO imR imA inA imH ihs) ++ (W_M cy aM mM' nM'))) H1 → va_D (LA s) ([(bo, .inl (cy 1, 1, .inr (.inl o')))] ++ ((W_All cy aI aT adP adS adB adO adR adA aP aS aB aO aR aA aH ah imT mdP' ndP' mdS' mdB' mdO' mdR' mdA' ndA' imP inP imS imB imO imR imA inA imH ihs) ++ (W_M cy aM mM' nM'))) → va_S (LA s) s.heap H1 locs1 → lv_has ls1 9 [(0, .ref b), (1, .ref (aI 0)), (2, .ref (aM 0)), (3, .ref bo), (4, .int i4)] → W p l e room_1 s m #[Value.ref b] below meth c H1 locs1 (cells + 16) (slots + 96) Q (F0 m 2094 ls1 [])) : W p l e room_1 s m #[Value.ref b] below meth c H locs cells slots Q (F0 m 1651 ls []) := by
  have hA : ∀ q : Nat, s.heap.size ≤ q → LA s q := fun _ h => h
  have hbA : ¬ LA s b := Nat.not_le.mpr hbl
  have hC : CallFix p m c code 9 s #[Value.ref b] lwA RL := ⟨hx, hb, hml, hown, hts⟩
  obtain ⟨o', ho⟩ : ∃ o', (if k' = 0 then vp_updL o 0 (r'.toInt64) else o) = o' := ⟨_, rfl⟩
  refine lv_aload_n hx hb dL_law_1651 rfl (lv_at hl 1 rfl) ?_
  refine lv_aload_n hx hb dL_law_1652 rfl (lv_at hl 0 rfl) ?_
  refine lv_iload hx hb dL_law_1653 (lv_at hl 4 rfl) ?_
  refine lv_iconst (v := 1) hx hb dL_law_1655 (by decide) ?_
  refine lv_iadd hx hb dL_law_1656 ?_
  refine va_sld hx hb hXs hbl hbA hS v1 dL_law_1657 ?_
  refine s_nm e1.symm ?_
  refine lv_aload_n hx hb dL_law_1658 rfl (lv_at hl 3 rfl) ?_
  refine ki (X := []) (Y := (W_M cy aM imM inM)) (ws1 := [(bo, .inl (cy 1, 1, .inr (.inl o')))] ++ ((W_All cy aI aT adP adS adB adO adR adA aP aS aB aO aR aA aH ah imT mdP' ndP' mdS' mdB' mdO' mdR' mdA' ndA' imP inP imS imB imO imR imA inA imH ihs) ++ (W_M cy aM imM inM))) (rH (X := []) (Y := (W_M cy aM imM inM)) (As := [.ref (aI 0), .int x1, .ref bo]) (rest := []) hC (c_L_massAfter l hst D cy aI aT adP adS adB adO adR adA aP aS aB aO aR aA aH ah bo x1 imT imdP indP imdS imdB imdO imdR imdA indA imP inP imS imB imO imR imA inA imH ihs o o' k' r' mdP' ndP' mdS' mdB' mdO' mdR' mdA' ndA' cd hk ho hE8) (vx_cwSW (hh := [(0, 9, 12, 13)]) 3 hts gL_law_L_massAfter rfl rfl rfl (by decide +kernel) ⟨Nat.le_of_ble_eq_true rfl, Nat.le_of_ble_eq_true rfl⟩) hK hN hX hP hD hS hA (asm1 _ _ _) rfl hl.1 rfl (lv_room (Nat.le_of_ble_eq_true rfl)) dL_law_1659 ⟨by show cells + 1 ≤ 601024; omega, by show slots + 6 ≤ 7293034; omega⟩) hP hD hS hA (asm1 _ _ _) (fst_L _ _ (fst_All cy aI aT adP adS adB adO adR adA aP aS aB aO aR aA aH ah imT imdP indP imdS imdB imdO imdR imdA indA imP inP imS imB imO imR imA inA imH ihs imT mdP' ndP' mdS' mdB' mdO' mdR' mdA' ndA' imP inP imS imB imO imR imA inA imH ihs)) (asm1 _ _ _).symm (fun H locs hP hD hS => ?_)
  refine lv_istore (lv' := [(5, .int cd), (0, .ref b), (1, .ref (aI 0)), (2, .ref (aM 0)), (3, .ref bo), (4, .int i4)]) hx hb dL_law_1662 hl (by decide) rfl (fun ls hl => ?_)
  refine lv_aload_n hx hb dL_law_1664 rfl (lv_at hl 3 rfl) ?_
  refine lv_aload_n hx hb dL_law_1665 rfl (lv_at hl 1 rfl) ?_
  refine lv_iload hx hb dL_law_1666 (lv_at hl 5 rfl) ?_
  refine lv_iconst (v := 1) hx hb dL_law_1668 (by decide) ?_
  refine lv_iadd hx hb dL_law_1669 ?_
  refine va_sld hx hb hXs hbl hbA hS v1 dL_law_1670 ?_
  refine s_nm e1.symm ?_
  refine ki (X := ([(bo, .inl (cy 1, 1, .inr (.inl o')))] ++ (W_All cy aI aT adP adS adB adO adR adA aP aS aB aO aR aA aH ah imT mdP' ndP' mdS' mdB' mdO' mdR' mdA' ndA' imP inP imS imB imO imR imA inA imH ihs))) (Y := []) (ws1 := [(bo, .inl (cy 1, 1, .inr (.inl o')))] ++ ((W_All cy aI aT adP adS adB adO adR adA aP aS aB aO aR aA aH ah imT mdP' ndP' mdS' mdB' mdO' mdR' mdA' ndA' imP inP imS imB imO imR imA inA imH ihs) ++ (W_M cy aM mM' nM'))) (rV (X := ([(bo, .inl (cy 1, 1, .inr (.inl o')))] ++ (W_All cy aI aT adP adS adB adO adR adA aP aS aB aO aR aA aH ah imT mdP' ndP' mdS' mdB' mdO' mdR' mdA' ndA' imP inP imS imB imO imR imA inA imH ihs))) (Y := []) (As := [.int x1]) (rest := []) hC (c_X9_massAfter l D cy aM x1 imM inM rM mM' nM' hE9) (cwV 1 hts gL_law_X9_massAfter rfl rfl rfl cd_X9_massAfter ⟨Nat.le_of_ble_eq_true rfl, Nat.le_of_ble_eq_true rfl⟩) hK hN hP hD hS hA (asm2 _ _ _) 0 9 rfl rfl rfl hl.1 rfl (lv_room (Nat.le_of_ble_eq_true rfl)) dL_law_1671 ⟨by show _ ≤ 601024; omega, by show _ ≤ 7293034; omega⟩) hP hD hS hA (asm2 _ _ _) rfl (asm2 _ _ _).symm (fun H locs hP hD hS => ?_)
  refine lv_istore (lv' := [(6, .int rM), (5, .int cd), (0, .ref b), (1, .ref (aI 0)), (2, .ref (aM 0)), (3, .ref bo), (4, .int i4)]) hx hb dL_law_1674 hl (by decide) rfl (fun ls hl => ?_)
  refine lv_aload_n hx hb dL_law_1676 rfl (lv_at hl 4 rfl) ?_
  refine ki (X := ([(bo, .inl (cy 1, 1, .inr (.inl o')))] ++ (W_All cy aI aT adP adS adB adO adR adA aP aS aB aO aR aA aH ah imT mdP' ndP' mdS' mdB' mdO' mdR' mdA' ndA' imP inP imS imB imO imR imA inA imH ihs))) (Y := []) (ws1 := [(bo, .inl (cy 1, 1, .inr (.inl o')))] ++ ((W_All cy aI aT adP adS adB adO adR adA aP aS aB aO aR aA aH ah imT mdP' ndP' mdS' mdB' mdO' mdR' mdA' ndA' imP inP imS imB imO imR imA inA imH ihs) ++ (W_M cy aM mM' nM'))) (rV (X := ([(bo, .inl (cy 1, 1, .inr (.inl o')))] ++ (W_All cy aI aT adP adS adB adO adR adA aP aS aB aO aR aA aH ah imT mdP' ndP' mdS' mdB' mdO' mdR' mdA' ndA' imP inP imS imB imO imR imA inA imH ihs))) (Y := []) (As := []) (rest := []) hC (c_X9_thrown l D cy aM mM' nM' (mM' 8 0) rfl) (cwV 0 hts gL_law_X9_thrown rfl rfl rfl cd_X9_thrown ⟨Nat.le_of_ble_eq_true rfl, Nat.le_of_ble_eq_true rfl⟩) hK hN hP hD hS hA (asm2 _ _ _) 0 9 rfl rfl rfl hl.1 rfl (lv_room (Nat.le_of_ble_eq_true rfl)) dL_law_1677 ⟨by show _ ≤ 601024; omega, by show _ ≤ 7293034; omega⟩) hP hD hS hA (asm2 _ _ _) rfl (asm2 _ _ _).symm (fun H locs hP hD hS => ?_)
  refine s_nm hth.symm ?_
  refine lv_iload hx hb dL_law_1680 (lv_at hl 1 rfl) ?_
  refine lv_icmp_eq (tgt := 1687) hx hb dL_law_1682 (by decide) (fun _ => ?_) (fun q9 => absurd rfl q9)
  refine lv_iload hx hb dL_law_1687 (lv_at hl 1 rfl) ?_
  refine lv_if_ne (tgt := 1704) hx hb dL_law_1689 (by decide) (fun q9 => ?_) (fun q9 => ?_)
  · refine lv_goto (tgt := 2094) hx hb dL_law_1704 (by decide) ?_
    refine W.widen (k := cells + 16) (n := slots + 96) (by omega) (by omega) ?_
    exact kk o' _ _ _ hP hD hS (lv_sub hl [2, 3, 4, 5, 6] rfl)
  · have hk0 : k' = 0 := by rcases hk with ⟨a, c9⟩ | ⟨a, c9⟩ <;> first | exact a | exact absurd (q9.symm.trans c9) (by decide)
    have ho0 : o' 0 = rM.toInt64 := by rw [← ho, if_pos hk0, hr hk0]; rfl
    refine lv_aload_n hx hb dL_law_1692 rfl (lv_at hl 5 rfl) ?_
    refine lv_iconst (v := 0) hx hb dL_law_1693 (by decide) ?_
    refine va_lald hx hb hK hP 0 1 rfl rfl (show ¬ ((0 : Int32) < 0 ∨ 1 ≤ (0 : Int32).toNatClampNeg) by decide) dL_law_1694 ?_
    refine s_nmL (y := rM.toInt64) (by rw [← ho0]; rfl) ?_
    refine lv_iload hx hb dL_law_1695 (lv_at hl 0 rfl) ?_
    refine lv_i2l hx hb dL_law_1697 rfl ?_
    refine W.lcmp hx hb dL_law_1698 ?_
    rw [lg_cmp_self]
    refine lv_if_eq (tgt := 1704) hx hb dL_law_1699 (by decide) (fun _ => ?_) (fun q9 => absurd rfl q9)
    refine lv_goto (tgt := 2094) hx hb dL_law_1704 (by decide) ?_
    refine W.widen (k := cells + 16) (n := slots + 96) (by omega) (by omega) ?_
    exact kk o' _ _ _ hP hD hS (lv_sub hl [2, 3, 4, 5, 6] rfl)
set_option maxHeartbeats 40000000 in
set_option maxRecDepth 100000 in
theorem lc_completeIn {p : Program} {l : Launch} (hst : l.stackTraces = false) {e : Env} {s : State} {m : MethodId} {below : List Frame} {meth : Method} {c : Code} {Q : State → Prop} {D : va_G} {cy : Nat → Nat} {b L : Nat} {xs : Nat → Int32} (hx : p.tables.exec = Jvm.exec) (hb : c.code = code) (hml : c.maxLocals = 9) (hown : s.vm.findClass RL = some m.cls) (hts : ∀ w ∈ lwA, w.before #[Value.ref b] s = true) (hXs : va_X b L xs s s.heap) (hbl : b < s.heap.size) (hK : va_K D vwCl (tyl cy) s) (hN : cG cy (LA s) s s.heap) (hX : cX s) {aI aT adP adS adB adO adR adA aP aS aB aO aR aA aH aM : Nat → Nat} {ah : Nat → Nat → Nat → Nat} {bo : Nat} {imT : Mem} {imdP : Mem} {indP : MemL} {imdS : Mem} {imdB : Mem} {imdO : Mem} {imdR : Mem} {imdA : Mem} {indA : MemL} {imP : Mem} {inP : MemL} {imS : Mem} {imB : Mem} {imO : Mem} {imR : Mem} {imA : Mem} {inA : MemL} {imH : Mem} {ihs : (Nat → PSt)} {imM : Mem} {inM : MemL} {o : Nat → Int64} {H : Heap} {locs : List Loc} {ls : Array Slot} {cells slots : Nat} {i4 : Int32} (hP : va_P D vwCl ([(bo, .inl (cy 1, 1, .inr (.inl o)))] ++ ((W_All cy aI aT adP adS adB adO adR adA aP aS aB aO aR aA aH ah imT imdP indP imdS imdB imdO imdR imdA indA imP inP imS imB imO imR imA inA imH ihs) ++ (W_M cy aM imM inM))) H) (hD : va_D (LA s) ([(bo, .inl (cy 1, 1, .inr (.inl o)))] ++ ((W_All cy aI aT adP adS adB adO adR adA aP aS aB aO aR aA aH ah imT imdP indP imdS imdB imdO imdR imdA indA imP inP imS imB imO imR imA inA imH ihs) ++ (W_M cy aM imM inM)))) (hS : va_S (LA s) s.heap H locs) (hl : lv_has ls 9 [(0, .ref b), (1, .ref (aI 0)), (2, .ref (aM 0)), (3, .ref bo), (4, .int i4)]) (hcl : cells + 16 ≤ 601024) (hsl : slots + 96 ≤ 7293034) {x1 : Int32} (e1 : xs (i4 + 1).toNatClampNeg = x1) (v1 : vp_in (i4 + 1) L) {mdP' : Mem} {ndP' : MemL} {mdS' : Mem} {mdB' : Mem} {mdO' : Mem} {mdR' : Mem} {mdA' : Mem} {ndA' : MemL} {mM' : Mem} {nM' : MemL} {k' : Nat} {r' rM : Int32} {cd : Int32} (hk : k' = 0 ∧ cd = 0 ∨ k' = 1 ∧ cd = 1 ∨ k' = 3 ∧ cd = 2) (hE8 : f_X8_completeIn x1 imT imdP indP imdS imdB imdO imdR imdA indA imP inP imS imB imO imR imA inA imH ihs = some (k', r', mdP', ndP', mdS', mdB', mdO', mdR', mdA', ndA')) (hE9 : f_X9_completeIn x1 imM inM = some (rM, mM', nM')) (hth : mM' 8 0 = cd) (hr : k' = 0 → r' = rM) (kk : ∀ (o' : Nat → Int64) (H1 : Heap) (locs1 : List Loc) (ls1 : Array Slot), va_P D vwCl ([(bo, .inl (cy 1, 1, .inr (.inl o')))] ++ ((W_All cy aI aT adP adS adB adO adR adA aP aS aB aO aR aA aH ah imT mdP' ndP' mdS' mdB' mdO' mdR' mdA' ndA' imP inP imS imB imO imR imA inA imH ihs) ++ (W_M cy aM mM' nM'))) H1 → va_D (LA s) ([(bo, .inl (cy 1, 1, .inr (.inl o')))] ++ ((W_All cy aI aT adP adS adB adO adR adA aP aS aB aO aR aA aH ah imT mdP' ndP' mdS' mdB' mdO' mdR' mdA' ndA' imP inP imS imB imO imR imA inA imH ihs) ++ (W_M cy aM mM' nM'))) → va_S (LA s) s.heap H1 locs1 → lv_has ls1 9 [(0, .ref b), (1, .ref (aI 0)), (2, .ref (aM 0)), (3, .ref bo), (4, .int i4)] → W p l e room_1 s m #[Value.ref b] below meth c H1 locs1 (cells + 16) (slots + 96) Q (F0 m 2094 ls1 [])) : W p l e room_1 s m #[Value.ref b] below meth c H locs cells slots Q (F0 m 1707 ls []) := by
  have hA : ∀ q : Nat, s.heap.size ≤ q → LA s q := fun _ h => h
  have hbA : ¬ LA s b := Nat.not_le.mpr hbl
  have hC : CallFix p m c code 9 s #[Value.ref b] lwA RL := ⟨hx, hb, hml, hown, hts⟩
  obtain ⟨o', ho⟩ : ∃ o', (if k' = 0 then vp_updL o 0 (r'.toInt64) else o) = o' := ⟨_, rfl⟩
  refine lv_aload_n hx hb dL_law_1707 rfl (lv_at hl 1 rfl) ?_
  refine lv_aload_n hx hb dL_law_1708 rfl (lv_at hl 0 rfl) ?_
  refine lv_iload hx hb dL_law_1709 (lv_at hl 4 rfl) ?_
  refine lv_iconst (v := 1) hx hb dL_law_1711 (by decide) ?_
  refine lv_iadd hx hb dL_law_1712 ?_
  refine va_sld hx hb hXs hbl hbA hS v1 dL_law_1713 ?_
  refine s_nm e1.symm ?_
  refine lv_aload_n hx hb dL_law_1714 rfl (lv_at hl 3 rfl) ?_
  refine ki (X := []) (Y := (W_M cy aM imM inM)) (ws1 := [(bo, .inl (cy 1, 1, .inr (.inl o')))] ++ ((W_All cy aI aT adP adS adB adO adR adA aP aS aB aO aR aA aH ah imT mdP' ndP' mdS' mdB' mdO' mdR' mdA' ndA' imP inP imS imB imO imR imA inA imH ihs) ++ (W_M cy aM imM inM))) (rH (X := []) (Y := (W_M cy aM imM inM)) (As := [.ref (aI 0), .int x1, .ref bo]) (rest := []) hC (c_L_completeIn l hst D cy aI aT adP adS adB adO adR adA aP aS aB aO aR aA aH ah bo x1 imT imdP indP imdS imdB imdO imdR imdA indA imP inP imS imB imO imR imA inA imH ihs o o' k' r' mdP' ndP' mdS' mdB' mdO' mdR' mdA' ndA' cd hk ho hE8) (vx_cwSW (hh := [(0, 9, 12, 21), (0, 9, 15, 15)]) 3 hts gL_law_L_completeIn rfl rfl rfl (by decide +kernel) ⟨Nat.le_of_ble_eq_true rfl, Nat.le_of_ble_eq_true rfl⟩) hK hN hX hP hD hS hA (asm1 _ _ _) rfl hl.1 rfl (lv_room (Nat.le_of_ble_eq_true rfl)) dL_law_1715 ⟨by show cells + 2 ≤ 601024; omega, by show slots + 12 ≤ 7293034; omega⟩) hP hD hS hA (asm1 _ _ _) (fst_L _ _ (fst_All cy aI aT adP adS adB adO adR adA aP aS aB aO aR aA aH ah imT imdP indP imdS imdB imdO imdR imdA indA imP inP imS imB imO imR imA inA imH ihs imT mdP' ndP' mdS' mdB' mdO' mdR' mdA' ndA' imP inP imS imB imO imR imA inA imH ihs)) (asm1 _ _ _).symm (fun H locs hP hD hS => ?_)
  refine lv_istore (lv' := [(5, .int cd), (0, .ref b), (1, .ref (aI 0)), (2, .ref (aM 0)), (3, .ref bo), (4, .int i4)]) hx hb dL_law_1718 hl (by decide) rfl (fun ls hl => ?_)
  refine lv_aload_n hx hb dL_law_1720 rfl (lv_at hl 3 rfl) ?_
  refine lv_aload_n hx hb dL_law_1721 rfl (lv_at hl 1 rfl) ?_
  refine lv_iload hx hb dL_law_1722 (lv_at hl 5 rfl) ?_
  refine lv_iconst (v := 1) hx hb dL_law_1724 (by decide) ?_
  refine lv_iadd hx hb dL_law_1725 ?_
  refine va_sld hx hb hXs hbl hbA hS v1 dL_law_1726 ?_
  refine s_nm e1.symm ?_
  refine ki (X := ([(bo, .inl (cy 1, 1, .inr (.inl o')))] ++ (W_All cy aI aT adP adS adB adO adR adA aP aS aB aO aR aA aH ah imT mdP' ndP' mdS' mdB' mdO' mdR' mdA' ndA' imP inP imS imB imO imR imA inA imH ihs))) (Y := []) (ws1 := [(bo, .inl (cy 1, 1, .inr (.inl o')))] ++ ((W_All cy aI aT adP adS adB adO adR adA aP aS aB aO aR aA aH ah imT mdP' ndP' mdS' mdB' mdO' mdR' mdA' ndA' imP inP imS imB imO imR imA inA imH ihs) ++ (W_M cy aM mM' nM'))) (rV (X := ([(bo, .inl (cy 1, 1, .inr (.inl o')))] ++ (W_All cy aI aT adP adS adB adO adR adA aP aS aB aO aR aA aH ah imT mdP' ndP' mdS' mdB' mdO' mdR' mdA' ndA' imP inP imS imB imO imR imA inA imH ihs))) (Y := []) (As := [.int x1]) (rest := []) hC (c_X9_completeIn l D cy aM x1 imM inM rM mM' nM' hE9) (cwV 1 hts gL_law_X9_completeIn rfl rfl rfl cd_X9_completeIn ⟨Nat.le_of_ble_eq_true rfl, Nat.le_of_ble_eq_true rfl⟩) hK hN hP hD hS hA (asm2 _ _ _) 0 9 rfl rfl rfl hl.1 rfl (lv_room (Nat.le_of_ble_eq_true rfl)) dL_law_1727 ⟨by show _ ≤ 601024; omega, by show _ ≤ 7293034; omega⟩) hP hD hS hA (asm2 _ _ _) rfl (asm2 _ _ _).symm (fun H locs hP hD hS => ?_)
  refine lv_istore (lv' := [(6, .int rM), (5, .int cd), (0, .ref b), (1, .ref (aI 0)), (2, .ref (aM 0)), (3, .ref bo), (4, .int i4)]) hx hb dL_law_1730 hl (by decide) rfl (fun ls hl => ?_)
  refine lv_aload_n hx hb dL_law_1732 rfl (lv_at hl 4 rfl) ?_
  refine ki (X := ([(bo, .inl (cy 1, 1, .inr (.inl o')))] ++ (W_All cy aI aT adP adS adB adO adR adA aP aS aB aO aR aA aH ah imT mdP' ndP' mdS' mdB' mdO' mdR' mdA' ndA' imP inP imS imB imO imR imA inA imH ihs))) (Y := []) (ws1 := [(bo, .inl (cy 1, 1, .inr (.inl o')))] ++ ((W_All cy aI aT adP adS adB adO adR adA aP aS aB aO aR aA aH ah imT mdP' ndP' mdS' mdB' mdO' mdR' mdA' ndA' imP inP imS imB imO imR imA inA imH ihs) ++ (W_M cy aM mM' nM'))) (rV (X := ([(bo, .inl (cy 1, 1, .inr (.inl o')))] ++ (W_All cy aI aT adP adS adB adO adR adA aP aS aB aO aR aA aH ah imT mdP' ndP' mdS' mdB' mdO' mdR' mdA' ndA' imP inP imS imB imO imR imA inA imH ihs))) (Y := []) (As := []) (rest := []) hC (c_X9_thrown l D cy aM mM' nM' (mM' 8 0) rfl) (cwV 0 hts gL_law_X9_thrown rfl rfl rfl cd_X9_thrown ⟨Nat.le_of_ble_eq_true rfl, Nat.le_of_ble_eq_true rfl⟩) hK hN hP hD hS hA (asm2 _ _ _) 0 9 rfl rfl rfl hl.1 rfl (lv_room (Nat.le_of_ble_eq_true rfl)) dL_law_1733 ⟨by show _ ≤ 601024; omega, by show _ ≤ 7293034; omega⟩) hP hD hS hA (asm2 _ _ _) rfl (asm2 _ _ _).symm (fun H locs hP hD hS => ?_)
  refine s_nm hth.symm ?_
  refine lv_iload hx hb dL_law_1736 (lv_at hl 1 rfl) ?_
  refine lv_icmp_eq (tgt := 1743) hx hb dL_law_1738 (by decide) (fun _ => ?_) (fun q9 => absurd rfl q9)
  refine lv_iload hx hb dL_law_1743 (lv_at hl 1 rfl) ?_
  refine lv_if_ne (tgt := 1760) hx hb dL_law_1745 (by decide) (fun q9 => ?_) (fun q9 => ?_)
  · refine lv_goto (tgt := 2094) hx hb dL_law_1760 (by decide) ?_
    refine W.widen (k := cells + 16) (n := slots + 96) (by omega) (by omega) ?_
    exact kk o' _ _ _ hP hD hS (lv_sub hl [2, 3, 4, 5, 6] rfl)
  · have hk0 : k' = 0 := by rcases hk with ⟨a, c9⟩ | ⟨a, c9⟩ | ⟨a, c9⟩ <;> first | exact a | exact absurd (q9.symm.trans c9) (by decide)
    have ho0 : o' 0 = rM.toInt64 := by rw [← ho, if_pos hk0, hr hk0]; rfl
    refine lv_aload_n hx hb dL_law_1748 rfl (lv_at hl 5 rfl) ?_
    refine lv_iconst (v := 0) hx hb dL_law_1749 (by decide) ?_
    refine va_lald hx hb hK hP 0 1 rfl rfl (show ¬ ((0 : Int32) < 0 ∨ 1 ≤ (0 : Int32).toNatClampNeg) by decide) dL_law_1750 ?_
    refine s_nmL (y := rM.toInt64) (by rw [← ho0]; rfl) ?_
    refine lv_iload hx hb dL_law_1751 (lv_at hl 0 rfl) ?_
    refine lv_i2l hx hb dL_law_1753 rfl ?_
    refine W.lcmp hx hb dL_law_1754 ?_
    rw [lg_cmp_self]
    refine lv_if_eq (tgt := 1760) hx hb dL_law_1755 (by decide) (fun _ => ?_) (fun q9 => absurd rfl q9)
    refine lv_goto (tgt := 2094) hx hb dL_law_1760 (by decide) ?_
    refine W.widen (k := cells + 16) (n := slots + 96) (by omega) (by omega) ?_
    exact kk o' _ _ _ hP hD hS (lv_sub hl [2, 3, 4, 5, 6] rfl)
