set_option maxHeartbeats 40000000 in
set_option maxRecDepth 100000 in
theorem lc_addSilo {p : Program} {l : Launch} (hst : l.stackTraces = false) {e : Env} {s : State} {m : MethodId} {below : List Frame} {meth : Method} {c : Code} {Q : State → Prop} {D : va_G} {cy : Nat → Nat} {b L : Nat} {xs : Nat → Int32} (hx : p.tables.exec = Jvm.exec) (hb : c.code = code) (hml : c.maxLocals = 9) (hown : s.vm.findClass RL = some m.cls) (hts : ∀ w ∈ lwA, w.before #[Value.ref b] s = true) (hXs : va_X b L xs s s.heap) (hbl : b < s.heap.size) (hK : va_K D vwCl (tyl cy) s) (hN : cG cy (LA s) s s.heap) (hX : cX s) {aI aT adP adS adB adO adR adA aP aS aB aO aR aA aH aM : Nat → Nat} {ah : Nat → Nat → Nat → Nat} {bo : Nat} {imT : Mem} {imdP : Mem} {indP : MemL} {imdS : Mem} {imdB : Mem} {imdO : Mem} {imdR : Mem} {imdA : Mem} {indA : MemL} {imP : Mem} {inP : MemL} {imS : Mem} {imB : Mem} {imO : Mem} {imR : Mem} {imA : Mem} {inA : MemL} {imH : Mem} {ihs : (Nat → PSt)} {imM : Mem} {inM : MemL} {o : Nat → Int64} {H : Heap} {locs : List Loc} {ls : Array Slot} {cells slots : Nat} {i4 : Int32} (hP : va_P D vwCl ([(bo, .inl (cy 1, 1, .inr (.inl o)))] ++ ((W_All cy aI aT adP adS adB adO adR adA aP aS aB aO aR aA aH ah imT imdP indP imdS imdB imdO imdR imdA indA imP inP imS imB imO imR imA inA imH ihs) ++ (W_M cy aM imM inM))) H) (hD : va_D (LA s) ([(bo, .inl (cy 1, 1, .inr (.inl o)))] ++ ((W_All cy aI aT adP adS adB adO adR adA aP aS aB aO aR aA aH ah imT imdP indP imdS imdB imdO imdR imdA indA imP inP imS imB imO imR imA inA imH ihs) ++ (W_M cy aM imM inM)))) (hS : va_S (LA s) s.heap H locs) (hl : lv_has ls 9 [(0, .ref b), (1, .ref (aI 0)), (2, .ref (aM 0)), (3, .ref bo), (4, .int i4)]) (hcl : cells + 16 ≤ 601024) (hsl : slots + 96 ≤ 7293034) {x1 : Int32} (e1 : xs (i4 + 1).toNatClampNeg = x1) (v1 : vp_in (i4 + 1) L) {x2 : Int32} (e2 : xs (i4 + 2).toNatClampNeg = x2) (v2 : vp_in (i4 + 2) L) {x3 : Int32} (e3 : xs (i4 + 3).toNatClampNeg = x3) (v3 : vp_in (i4 + 3) L) {mS' : Mem} {mH' : Mem} {hs' : (Nat → PSt)} {mM' : Mem} {nM' : MemL} {k' : Nat} {r' rM : Int32} {cd : Int32} (hk : k' = 0 ∧ cd = 0 ∨ k' = 2 ∧ cd = 1 ∨ k' = 3 ∧ cd = 2) (hE8 : f_X8_addSilo x1 x2 x3 imT imdP indP imdS imdB imdO imdR imdA indA imP inP imS imB imO imR imA inA imH ihs = some (k', r', mS', mH', hs')) (hE9 : f_X9_addSilo x1 x2 x3 imM inM = some (rM, mM', nM')) (hth : mM' 8 0 = cd) (hr : k' = 0 → r' = rM) (kk : ∀ (o' : Nat → Int64) (H1 : Heap) (locs1 : List Loc) (ls1 : Array Slot), va_P D vwCl ([(bo, .inl (cy 1, 1, .inr (.inl o')))] ++ ((W_All cy aI aT adP adS adB adO adR adA aP aS aB aO aR aA aH ah imT imdP indP imdS imdB imdO imdR imdA indA imP inP mS' imB imO imR imA inA mH' hs') ++ (W_M cy aM mM' nM'))) H1 → va_D (LA s) ([(bo, .inl (cy 1, 1, .inr (.inl o')))] ++ ((W_All cy aI aT adP adS adB adO adR adA aP aS aB aO aR aA aH ah imT imdP indP imdS imdB imdO imdR imdA indA imP inP mS' imB imO imR imA inA mH' hs') ++ (W_M cy aM mM' nM'))) → va_S (LA s) s.heap H1 locs1 → lv_has ls1 9 [(0, .ref b), (1, .ref (aI 0)), (2, .ref (aM 0)), (3, .ref bo), (4, .int i4)] → W p l e room_1 s m #[Value.ref b] below meth c H1 locs1 (cells + 16) (slots + 96) Q (F0 m 2094 ls1 [])) : W p l e room_1 s m #[Value.ref b] below meth c H locs cells slots Q (F0 m 180 ls []) := by
  have hA : ∀ q : Nat, s.heap.size ≤ q → LA s q := fun _ h => h
  have hbA : ¬ LA s b := Nat.not_le.mpr hbl
  have hC : CallFix p m c code 9 s #[Value.ref b] lwA RL := ⟨hx, hb, hml, hown, hts⟩
  obtain ⟨o', ho⟩ : ∃ o', (if k' = 0 then vp_updL o 0 (r'.toInt64) else o) = o' := ⟨_, rfl⟩
  refine lv_aload_n hx hb dL_law_180 rfl (lv_at hl 1 rfl) ?_
  refine lv_aload_n hx hb dL_law_181 rfl (lv_at hl 0 rfl) ?_
  refine lv_iload hx hb dL_law_182 (lv_at hl 4 rfl) ?_
  refine lv_iconst (v := 1) hx hb dL_law_184 (by decide) ?_
  refine lv_iadd hx hb dL_law_185 ?_
  refine va_sld hx hb hXs hbl hbA hS v1 dL_law_186 ?_
  refine s_nm e1.symm ?_
  refine lv_aload_n hx hb dL_law_187 rfl (lv_at hl 0 rfl) ?_
  refine lv_iload hx hb dL_law_188 (lv_at hl 4 rfl) ?_
  refine lv_iconst (v := 2) hx hb dL_law_190 (by decide) ?_
  refine lv_iadd hx hb dL_law_191 ?_
  refine va_sld hx hb hXs hbl hbA hS v2 dL_law_192 ?_
  refine s_nm e2.symm ?_
  refine lv_aload_n hx hb dL_law_193 rfl (lv_at hl 0 rfl) ?_
  refine lv_iload hx hb dL_law_194 (lv_at hl 4 rfl) ?_
  refine lv_iconst (v := 3) hx hb dL_law_196 (by decide) ?_
  refine lv_iadd hx hb dL_law_197 ?_
  refine va_sld hx hb hXs hbl hbA hS v3 dL_law_198 ?_
  refine s_nm e3.symm ?_
  refine lv_aload_n hx hb dL_law_199 rfl (lv_at hl 3 rfl) ?_
  refine ki (X := []) (Y := (W_M cy aM imM inM)) (ws1 := [(bo, .inl (cy 1, 1, .inr (.inl o')))] ++ ((W_All cy aI aT adP adS adB adO adR adA aP aS aB aO aR aA aH ah imT imdP indP imdS imdB imdO imdR imdA indA imP inP mS' imB imO imR imA inA mH' hs') ++ (W_M cy aM imM inM))) (rH (X := []) (Y := (W_M cy aM imM inM)) (As := [.ref (aI 0), .int x1, .int x2, .int x3, .ref bo]) (rest := []) hC (c_L_addSilo l hst D cy aI aT adP adS adB adO adR adA aP aS aB aO aR aA aH ah bo x1 x2 x3 imT imdP indP imdS imdB imdO imdR imdA indA imP inP imS imB imO imR imA inA imH ihs o o' k' r' mS' mH' hs' cd hk ho hE8) (vx_cwSW (hh := [(0, 12, 15, 13), (0, 12, 19, 15)]) 5 hts gL_law_L_addSilo rfl rfl rfl (by decide +kernel) ⟨Nat.le_of_ble_eq_true rfl, Nat.le_of_ble_eq_true rfl⟩) hK hN hX hP hD hS hA (asm1 _ _ _) rfl hl.1 rfl (lv_room (Nat.le_of_ble_eq_true rfl)) dL_law_200 ⟨by show cells + 4 ≤ 601024; omega, by show slots + 24 ≤ 7293034; omega⟩) hP hD hS hA (asm1 _ _ _) (fst_L _ _ (fst_All cy aI aT adP adS adB adO adR adA aP aS aB aO aR aA aH ah imT imdP indP imdS imdB imdO imdR imdA indA imP inP imS imB imO imR imA inA imH ihs imT imdP indP imdS imdB imdO imdR imdA indA imP inP mS' imB imO imR imA inA mH' hs')) (asm1 _ _ _).symm (fun H locs hP hD hS => ?_)
  refine lv_istore (lv' := [(5, .int cd), (0, .ref b), (1, .ref (aI 0)), (2, .ref (aM 0)), (3, .ref bo), (4, .int i4)]) hx hb dL_law_203 hl (by decide) rfl (fun ls hl => ?_)
  refine lv_aload_n hx hb dL_law_205 rfl (lv_at hl 3 rfl) ?_
  refine lv_aload_n hx hb dL_law_206 rfl (lv_at hl 1 rfl) ?_
  refine lv_iload hx hb dL_law_207 (lv_at hl 5 rfl) ?_
  refine lv_iconst (v := 1) hx hb dL_law_209 (by decide) ?_
  refine lv_iadd hx hb dL_law_210 ?_
  refine va_sld hx hb hXs hbl hbA hS v1 dL_law_211 ?_
  refine s_nm e1.symm ?_
  refine lv_aload_n hx hb dL_law_212 rfl (lv_at hl 1 rfl) ?_
  refine lv_iload hx hb dL_law_213 (lv_at hl 5 rfl) ?_
  refine lv_iconst (v := 2) hx hb dL_law_215 (by decide) ?_
  refine lv_iadd hx hb dL_law_216 ?_
  refine va_sld hx hb hXs hbl hbA hS v2 dL_law_217 ?_
  refine s_nm e2.symm ?_
  refine lv_aload_n hx hb dL_law_218 rfl (lv_at hl 1 rfl) ?_
  refine lv_iload hx hb dL_law_219 (lv_at hl 5 rfl) ?_
  refine lv_iconst (v := 3) hx hb dL_law_221 (by decide) ?_
  refine lv_iadd hx hb dL_law_222 ?_
  refine va_sld hx hb hXs hbl hbA hS v3 dL_law_223 ?_
  refine s_nm e3.symm ?_
  refine ki (X := ([(bo, .inl (cy 1, 1, .inr (.inl o')))] ++ (W_All cy aI aT adP adS adB adO adR adA aP aS aB aO aR aA aH ah imT imdP indP imdS imdB imdO imdR imdA indA imP inP mS' imB imO imR imA inA mH' hs'))) (Y := []) (ws1 := [(bo, .inl (cy 1, 1, .inr (.inl o')))] ++ ((W_All cy aI aT adP adS adB adO adR adA aP aS aB aO aR aA aH ah imT imdP indP imdS imdB imdO imdR imdA indA imP inP mS' imB imO imR imA inA mH' hs') ++ (W_M cy aM mM' nM'))) (rV (X := ([(bo, .inl (cy 1, 1, .inr (.inl o')))] ++ (W_All cy aI aT adP adS adB adO adR adA aP aS aB aO aR aA aH ah imT imdP indP imdS imdB imdO imdR imdA indA imP inP mS' imB imO imR imA inA mH' hs'))) (Y := []) (As := [.int x1, .int x2, .int x3]) (rest := []) hC (c_X9_addSilo l D cy aM x1 x2 x3 imM inM rM mM' nM' hE9) (cwV 3 hts gL_law_X9_addSilo rfl rfl rfl cd_X9_addSilo ⟨Nat.le_of_ble_eq_true rfl, Nat.le_of_ble_eq_true rfl⟩) hK hN hP hD hS hA (asm2 _ _ _) 0 9 rfl rfl rfl hl.1 rfl (lv_room (Nat.le_of_ble_eq_true rfl)) dL_law_224 ⟨by show _ ≤ 601024; omega, by show _ ≤ 7293034; omega⟩) hP hD hS hA (asm2 _ _ _) rfl (asm2 _ _ _).symm (fun H locs hP hD hS => ?_)
  refine lv_istore (lv' := [(6, .int rM), (5, .int cd), (0, .ref b), (1, .ref (aI 0)), (2, .ref (aM 0)), (3, .ref bo), (4, .int i4)]) hx hb dL_law_227 hl (by decide) rfl (fun ls hl => ?_)
  refine lv_aload_n hx hb dL_law_229 rfl (lv_at hl 4 rfl) ?_
  refine ki (X := ([(bo, .inl (cy 1, 1, .inr (.inl o')))] ++ (W_All cy aI aT adP adS adB adO adR adA aP aS aB aO aR aA aH ah imT imdP indP imdS imdB imdO imdR imdA indA imP inP mS' imB imO imR imA inA mH' hs'))) (Y := []) (ws1 := [(bo, .inl (cy 1, 1, .inr (.inl o')))] ++ ((W_All cy aI aT adP adS adB adO adR adA aP aS aB aO aR aA aH ah imT imdP indP imdS imdB imdO imdR imdA indA imP inP mS' imB imO imR imA inA mH' hs') ++ (W_M cy aM mM' nM'))) (rV (X := ([(bo, .inl (cy 1, 1, .inr (.inl o')))] ++ (W_All cy aI aT adP adS adB adO adR adA aP aS aB aO aR aA aH ah imT imdP indP imdS imdB imdO imdR imdA indA imP inP mS' imB imO imR imA inA mH' hs'))) (Y := []) (As := []) (rest := []) hC (c_X9_thrown l D cy aM mM' nM' (mM' 8 0) rfl) (cwV 0 hts gL_law_X9_thrown rfl rfl rfl cd_X9_thrown ⟨Nat.le_of_ble_eq_true rfl, Nat.le_of_ble_eq_true rfl⟩) hK hN hP hD hS hA (asm2 _ _ _) 0 9 rfl rfl rfl hl.1 rfl (lv_room (Nat.le_of_ble_eq_true rfl)) dL_law_230 ⟨by show _ ≤ 601024; omega, by show _ ≤ 7293034; omega⟩) hP hD hS hA (asm2 _ _ _) rfl (asm2 _ _ _).symm (fun H locs hP hD hS => ?_)
  refine s_nm hth.symm ?_
  refine lv_iload hx hb dL_law_233 (lv_at hl 1 rfl) ?_
  refine lv_icmp_eq (tgt := 240) hx hb dL_law_235 (by decide) (fun _ => ?_) (fun q9 => absurd rfl q9)
  refine lv_iload hx hb dL_law_240 (lv_at hl 1 rfl) ?_
  refine lv_if_ne (tgt := 257) hx hb dL_law_242 (by decide) (fun q9 => ?_) (fun q9 => ?_)
  · refine lv_goto (tgt := 2094) hx hb dL_law_257 (by decide) ?_
    refine W.widen (k := cells + 16) (n := slots + 96) (by omega) (by omega) ?_
    exact kk o' _ _ _ hP hD hS (lv_sub hl [2, 3, 4, 5, 6] rfl)
  · have hk0 : k' = 0 := by rcases hk with ⟨a, c9⟩ | ⟨a, c9⟩ | ⟨a, c9⟩ <;> first | exact a | exact absurd (q9.symm.trans c9) (by decide)
    have ho0 : o' 0 = rM.toInt64 := by rw [← ho, if_pos hk0, hr hk0]; rfl
    refine lv_aload_n hx hb dL_law_245 rfl (lv_at hl 5 rfl) ?_
    refine lv_iconst (v := 0) hx hb dL_law_246 (by decide) ?_
    refine va_lald hx hb hK hP 0 1 rfl rfl (show ¬ ((0 : Int32) < 0 ∨ 1 ≤ (0 : Int32).toNatClampNeg) by decide) dL_law_247 ?_
    refine s_nmL (y := rM.toInt64) (by rw [← ho0]; rfl) ?_
    refine lv_iload hx hb dL_law_248 (lv_at hl 0 rfl) ?_
    refine lv_i2l hx hb dL_law_250 rfl ?_
    refine W.lcmp hx hb dL_law_251 ?_
    rw [lg_cmp_self]
    refine lv_if_eq (tgt := 257) hx hb dL_law_252 (by decide) (fun _ => ?_) (fun q9 => absurd rfl q9)
    refine lv_goto (tgt := 2094) hx hb dL_law_257 (by decide) ?_
    refine W.widen (k := cells + 16) (n := slots + 96) (by omega) (by omega) ?_
    exact kk o' _ _ _ hP hD hS (lv_sub hl [2, 3, 4, 5, 6] rfl)
set_option maxHeartbeats 40000000 in
set_option maxRecDepth 100000 in
theorem lc_setRule {p : Program} {l : Launch} (hst : l.stackTraces = false) {e : Env} {s : State} {m : MethodId} {below : List Frame} {meth : Method} {c : Code} {Q : State → Prop} {D : va_G} {cy : Nat → Nat} {b L : Nat} {xs : Nat → Int32} (hx : p.tables.exec = Jvm.exec) (hb : c.code = code) (hml : c.maxLocals = 9) (hown : s.vm.findClass RL = some m.cls) (hts : ∀ w ∈ lwA, w.before #[Value.ref b] s = true) (hXs : va_X b L xs s s.heap) (hbl : b < s.heap.size) (hK : va_K D vwCl (tyl cy) s) (hN : cG cy (LA s) s s.heap) (hX : cX s) {aI aT adP adS adB adO adR adA aP aS aB aO aR aA aH aM : Nat → Nat} {ah : Nat → Nat → Nat → Nat} {bo : Nat} {imT : Mem} {imdP : Mem} {indP : MemL} {imdS : Mem} {imdB : Mem} {imdO : Mem} {imdR : Mem} {imdA : Mem} {indA : MemL} {imP : Mem} {inP : MemL} {imS : Mem} {imB : Mem} {imO : Mem} {imR : Mem} {imA : Mem} {inA : MemL} {imH : Mem} {ihs : (Nat → PSt)} {imM : Mem} {inM : MemL} {o : Nat → Int64} {H : Heap} {locs : List Loc} {ls : Array Slot} {cells slots : Nat} {i4 : Int32} (hP : va_P D vwCl ([(bo, .inl (cy 1, 1, .inr (.inl o)))] ++ ((W_All cy aI aT adP adS adB adO adR adA aP aS aB aO aR aA aH ah imT imdP indP imdS imdB imdO imdR imdA indA imP inP imS imB imO imR imA inA imH ihs) ++ (W_M cy aM imM inM))) H) (hD : va_D (LA s) ([(bo, .inl (cy 1, 1, .inr (.inl o)))] ++ ((W_All cy aI aT adP adS adB adO adR adA aP aS aB aO aR aA aH ah imT imdP indP imdS imdB imdO imdR imdA indA imP inP imS imB imO imR imA inA imH ihs) ++ (W_M cy aM imM inM)))) (hS : va_S (LA s) s.heap H locs) (hl : lv_has ls 9 [(0, .ref b), (1, .ref (aI 0)), (2, .ref (aM 0)), (3, .ref bo), (4, .int i4)]) (hcl : cells + 16 ≤ 601024) (hsl : slots + 96 ≤ 7293034) {x1 : Int32} (e1 : xs (i4 + 1).toNatClampNeg = x1) (v1 : vp_in (i4 + 1) L) {x2 : Int32} (e2 : xs (i4 + 2).toNatClampNeg = x2) (v2 : vp_in (i4 + 2) L) {mS' : Mem} {mH' : Mem} {hs' : (Nat → PSt)} {mM' : Mem} {nM' : MemL} {k' : Nat} {r' rM : Int32} {cd : Int32} (hk : k' = 0 ∧ cd = 0 ∨ k' = 1 ∧ cd = 1 ∨ k' = 2 ∧ cd = 2) (hE8 : f_X8_setRule x1 x2 imT imdP indP imdS imdB imdO imdR imdA indA imP inP imS imB imO imR imA inA imH ihs = some (k', r', mS', mH', hs')) (hE9 : f_X9_setRule x1 x2 imM inM = some (rM, mM', nM')) (hth : mM' 8 0 = cd) (hr : k' = 0 → r' = rM) (kk : ∀ (o' : Nat → Int64) (H1 : Heap) (locs1 : List Loc) (ls1 : Array Slot), va_P D vwCl ([(bo, .inl (cy 1, 1, .inr (.inl o')))] ++ ((W_All cy aI aT adP adS adB adO adR adA aP aS aB aO aR aA aH ah imT imdP indP imdS imdB imdO imdR imdA indA imP inP mS' imB imO imR imA inA mH' hs') ++ (W_M cy aM mM' nM'))) H1 → va_D (LA s) ([(bo, .inl (cy 1, 1, .inr (.inl o')))] ++ ((W_All cy aI aT adP adS adB adO adR adA aP aS aB aO aR aA aH ah imT imdP indP imdS imdB imdO imdR imdA indA imP inP mS' imB imO imR imA inA mH' hs') ++ (W_M cy aM mM' nM'))) → va_S (LA s) s.heap H1 locs1 → lv_has ls1 9 [(0, .ref b), (1, .ref (aI 0)), (2, .ref (aM 0)), (3, .ref bo), (4, .int i4)] → W p l e room_1 s m #[Value.ref b] below meth c H1 locs1 (cells + 16) (slots + 96) Q (F0 m 2094 ls1 [])) : W p l e room_1 s m #[Value.ref b] below meth c H locs cells slots Q (F0 m 260 ls []) := by
  have hA : ∀ q : Nat, s.heap.size ≤ q → LA s q := fun _ h => h
  have hbA : ¬ LA s b := Nat.not_le.mpr hbl
  have hC : CallFix p m c code 9 s #[Value.ref b] lwA RL := ⟨hx, hb, hml, hown, hts⟩
  obtain ⟨o', ho⟩ : ∃ o', (if k' = 0 then vp_updL o 0 (r'.toInt64) else o) = o' := ⟨_, rfl⟩
  refine lv_aload_n hx hb dL_law_260 rfl (lv_at hl 1 rfl) ?_
  refine lv_aload_n hx hb dL_law_261 rfl (lv_at hl 0 rfl) ?_
  refine lv_iload hx hb dL_law_262 (lv_at hl 4 rfl) ?_
  refine lv_iconst (v := 1) hx hb dL_law_264 (by decide) ?_
  refine lv_iadd hx hb dL_law_265 ?_
  refine va_sld hx hb hXs hbl hbA hS v1 dL_law_266 ?_
  refine s_nm e1.symm ?_
  refine lv_aload_n hx hb dL_law_267 rfl (lv_at hl 0 rfl) ?_
  refine lv_iload hx hb dL_law_268 (lv_at hl 4 rfl) ?_
  refine lv_iconst (v := 2) hx hb dL_law_270 (by decide) ?_
  refine lv_iadd hx hb dL_law_271 ?_
  refine va_sld hx hb hXs hbl hbA hS v2 dL_law_272 ?_
  refine s_nm e2.symm ?_
  refine lv_aload_n hx hb dL_law_273 rfl (lv_at hl 3 rfl) ?_
  refine ki (X := []) (Y := (W_M cy aM imM inM)) (ws1 := [(bo, .inl (cy 1, 1, .inr (.inl o')))] ++ ((W_All cy aI aT adP adS adB adO adR adA aP aS aB aO aR aA aH ah imT imdP indP imdS imdB imdO imdR imdA indA imP inP mS' imB imO imR imA inA mH' hs') ++ (W_M cy aM imM inM))) (rH (X := []) (Y := (W_M cy aM imM inM)) (As := [.ref (aI 0), .int x1, .int x2, .ref bo]) (rest := []) hC (c_L_setRule l hst D cy aI aT adP adS adB adO adR adA aP aS aB aO aR aA aH ah bo x1 x2 imT imdP indP imdS imdB imdO imdR imdA indA imP inP imS imB imO imR imA inA imH ihs o o' k' r' mS' mH' hs' cd hk ho hE8) (vx_cwSW (hh := [(0, 10, 13, 21), (0, 10, 17, 13)]) 4 hts gL_law_L_setRule rfl rfl rfl (by decide +kernel) ⟨Nat.le_of_ble_eq_true rfl, Nat.le_of_ble_eq_true rfl⟩) hK hN hX hP hD hS hA (asm1 _ _ _) rfl hl.1 rfl (lv_room (Nat.le_of_ble_eq_true rfl)) dL_law_274 ⟨by show cells + 2 ≤ 601024; omega, by show slots + 12 ≤ 7293034; omega⟩) hP hD hS hA (asm1 _ _ _) (fst_L _ _ (fst_All cy aI aT adP adS adB adO adR adA aP aS aB aO aR aA aH ah imT imdP indP imdS imdB imdO imdR imdA indA imP inP imS imB imO imR imA inA imH ihs imT imdP indP imdS imdB imdO imdR imdA indA imP inP mS' imB imO imR imA inA mH' hs')) (asm1 _ _ _).symm (fun H locs hP hD hS => ?_)
  refine lv_istore (lv' := [(5, .int cd), (0, .ref b), (1, .ref (aI 0)), (2, .ref (aM 0)), (3, .ref bo), (4, .int i4)]) hx hb dL_law_277 hl (by decide) rfl (fun ls hl => ?_)
  refine lv_aload_n hx hb dL_law_279 rfl (lv_at hl 3 rfl) ?_
  refine lv_aload_n hx hb dL_law_280 rfl (lv_at hl 1 rfl) ?_
  refine lv_iload hx hb dL_law_281 (lv_at hl 5 rfl) ?_
  refine lv_iconst (v := 1) hx hb dL_law_283 (by decide) ?_
  refine lv_iadd hx hb dL_law_284 ?_
  refine va_sld hx hb hXs hbl hbA hS v1 dL_law_285 ?_
  refine s_nm e1.symm ?_
  refine lv_aload_n hx hb dL_law_286 rfl (lv_at hl 1 rfl) ?_
  refine lv_iload hx hb dL_law_287 (lv_at hl 5 rfl) ?_
  refine lv_iconst (v := 2) hx hb dL_law_289 (by decide) ?_
  refine lv_iadd hx hb dL_law_290 ?_
  refine va_sld hx hb hXs hbl hbA hS v2 dL_law_291 ?_
  refine s_nm e2.symm ?_
  refine ki (X := ([(bo, .inl (cy 1, 1, .inr (.inl o')))] ++ (W_All cy aI aT adP adS adB adO adR adA aP aS aB aO aR aA aH ah imT imdP indP imdS imdB imdO imdR imdA indA imP inP mS' imB imO imR imA inA mH' hs'))) (Y := []) (ws1 := [(bo, .inl (cy 1, 1, .inr (.inl o')))] ++ ((W_All cy aI aT adP adS adB adO adR adA aP aS aB aO aR aA aH ah imT imdP indP imdS imdB imdO imdR imdA indA imP inP mS' imB imO imR imA inA mH' hs') ++ (W_M cy aM mM' nM'))) (rV (X := ([(bo, .inl (cy 1, 1, .inr (.inl o')))] ++ (W_All cy aI aT adP adS adB adO adR adA aP aS aB aO aR aA aH ah imT imdP indP imdS imdB imdO imdR imdA indA imP inP mS' imB imO imR imA inA mH' hs'))) (Y := []) (As := [.int x1, .int x2]) (rest := []) hC (c_X9_setRule l D cy aM x1 x2 imM inM rM mM' nM' hE9) (cwV 2 hts gL_law_X9_setRule rfl rfl rfl cd_X9_setRule ⟨Nat.le_of_ble_eq_true rfl, Nat.le_of_ble_eq_true rfl⟩) hK hN hP hD hS hA (asm2 _ _ _) 0 9 rfl rfl rfl hl.1 rfl (lv_room (Nat.le_of_ble_eq_true rfl)) dL_law_292 ⟨by show _ ≤ 601024; omega, by show _ ≤ 7293034; omega⟩) hP hD hS hA (asm2 _ _ _) rfl (asm2 _ _ _).symm (fun H locs hP hD hS => ?_)
  refine lv_istore (lv' := [(6, .int rM), (5, .int cd), (0, .ref b), (1, .ref (aI 0)), (2, .ref (aM 0)), (3, .ref bo), (4, .int i4)]) hx hb dL_law_295 hl (by decide) rfl (fun ls hl => ?_)
  refine lv_aload_n hx hb dL_law_297 rfl (lv_at hl 4 rfl) ?_
  refine ki (X := ([(bo, .inl (cy 1, 1, .inr (.inl o')))] ++ (W_All cy aI aT adP adS adB adO adR adA aP aS aB aO aR aA aH ah imT imdP indP imdS imdB imdO imdR imdA indA imP inP mS' imB imO imR imA inA mH' hs'))) (Y := []) (ws1 := [(bo, .inl (cy 1, 1, .inr (.inl o')))] ++ ((W_All cy aI aT adP adS adB adO adR adA aP aS aB aO aR aA aH ah imT imdP indP imdS imdB imdO imdR imdA indA imP inP mS' imB imO imR imA inA mH' hs') ++ (W_M cy aM mM' nM'))) (rV (X := ([(bo, .inl (cy 1, 1, .inr (.inl o')))] ++ (W_All cy aI aT adP adS adB adO adR adA aP aS aB aO aR aA aH ah imT imdP indP imdS imdB imdO imdR imdA indA imP inP mS' imB imO imR imA inA mH' hs'))) (Y := []) (As := []) (rest := []) hC (c_X9_thrown l D cy aM mM' nM' (mM' 8 0) rfl) (cwV 0 hts gL_law_X9_thrown rfl rfl rfl cd_X9_thrown ⟨Nat.le_of_ble_eq_true rfl, Nat.le_of_ble_eq_true rfl⟩) hK hN hP hD hS hA (asm2 _ _ _) 0 9 rfl rfl rfl hl.1 rfl (lv_room (Nat.le_of_ble_eq_true rfl)) dL_law_298 ⟨by show _ ≤ 601024; omega, by show _ ≤ 7293034; omega⟩) hP hD hS hA (asm2 _ _ _) rfl (asm2 _ _ _).symm (fun H locs hP hD hS => ?_)
  refine s_nm hth.symm ?_
  refine lv_iload hx hb dL_law_301 (lv_at hl 1 rfl) ?_
  refine lv_icmp_eq (tgt := 308) hx hb dL_law_303 (by decide) (fun _ => ?_) (fun q9 => absurd rfl q9)
  refine lv_iload hx hb dL_law_308 (lv_at hl 1 rfl) ?_
  refine lv_if_ne (tgt := 325) hx hb dL_law_310 (by decide) (fun q9 => ?_) (fun q9 => ?_)
  · refine lv_goto (tgt := 2094) hx hb dL_law_325 (by decide) ?_
    refine W.widen (k := cells + 16) (n := slots + 96) (by omega) (by omega) ?_
    exact kk o' _ _ _ hP hD hS (lv_sub hl [2, 3, 4, 5, 6] rfl)
  · have hk0 : k' = 0 := by rcases hk with ⟨a, c9⟩ | ⟨a, c9⟩ | ⟨a, c9⟩ <;> first | exact a | exact absurd (q9.symm.trans c9) (by decide)
    have ho0 : o' 0 = rM.toInt64 := by rw [← ho, if_pos hk0, hr hk0]; rfl
    refine lv_aload_n hx hb dL_law_313 rfl (lv_at hl 5 rfl) ?_
    refine lv_iconst (v := 0) hx hb dL_law_314 (by decide) ?_
    refine va_lald hx hb hK hP 0 1 rfl rfl (show ¬ ((0 : Int32) < 0 ∨ 1 ≤ (0 : Int32).toNatClampNeg) by decide) dL_law_315 ?_
    refine s_nmL (y := rM.toInt64) (by rw [← ho0]; rfl) ?_
    refine lv_iload hx hb dL_law_316 (lv_at hl 0 rfl) ?_
    refine lv_i2l hx hb dL_law_318 rfl ?_
    refine W.lcmp hx hb dL_law_319 ?_
    rw [lg_cmp_self]
    refine lv_if_eq (tgt := 325) hx hb dL_law_320 (by decide) (fun _ => ?_) (fun q9 => absurd rfl q9)
    refine lv_goto (tgt := 2094) hx hb dL_law_325 (by decide) ?_
    refine W.widen (k := cells + 16) (n := slots + 96) (by omega) (by omega) ?_
    exact kk o' _ _ _ hP hD hS (lv_sub hl [2, 3, 4, 5, 6] rfl)
set_option maxHeartbeats 40000000 in
set_option maxRecDepth 100000 in
theorem lc_setStrength {p : Program} {l : Launch} (hst : l.stackTraces = false) {e : Env} {s : State} {m : MethodId} {below : List Frame} {meth : Method} {c : Code} {Q : State → Prop} {D : va_G} {cy : Nat → Nat} {b L : Nat} {xs : Nat → Int32} (hx : p.tables.exec = Jvm.exec) (hb : c.code = code) (hml : c.maxLocals = 9) (hown : s.vm.findClass RL = some m.cls) (hts : ∀ w ∈ lwA, w.before #[Value.ref b] s = true) (hXs : va_X b L xs s s.heap) (hbl : b < s.heap.size) (hK : va_K D vwCl (tyl cy) s) (hN : cG cy (LA s) s s.heap) (hX : cX s) {aI aT adP adS adB adO adR adA aP aS aB aO aR aA aH aM : Nat → Nat} {ah : Nat → Nat → Nat → Nat} {bo : Nat} {imT : Mem} {imdP : Mem} {indP : MemL} {imdS : Mem} {imdB : Mem} {imdO : Mem} {imdR : Mem} {imdA : Mem} {indA : MemL} {imP : Mem} {inP : MemL} {imS : Mem} {imB : Mem} {imO : Mem} {imR : Mem} {imA : Mem} {inA : MemL} {imH : Mem} {ihs : (Nat → PSt)} {imM : Mem} {inM : MemL} {o : Nat → Int64} {H : Heap} {locs : List Loc} {ls : Array Slot} {cells slots : Nat} {i4 : Int32} (hP : va_P D vwCl ([(bo, .inl (cy 1, 1, .inr (.inl o)))] ++ ((W_All cy aI aT adP adS adB adO adR adA aP aS aB aO aR aA aH ah imT imdP indP imdS imdB imdO imdR imdA indA imP inP imS imB imO imR imA inA imH ihs) ++ (W_M cy aM imM inM))) H) (hD : va_D (LA s) ([(bo, .inl (cy 1, 1, .inr (.inl o)))] ++ ((W_All cy aI aT adP adS adB adO adR adA aP aS aB aO aR aA aH ah imT imdP indP imdS imdB imdO imdR imdA indA imP inP imS imB imO imR imA inA imH ihs) ++ (W_M cy aM imM inM)))) (hS : va_S (LA s) s.heap H locs) (hl : lv_has ls 9 [(0, .ref b), (1, .ref (aI 0)), (2, .ref (aM 0)), (3, .ref bo), (4, .int i4)]) (hcl : cells + 16 ≤ 601024) (hsl : slots + 96 ≤ 7293034) {x1 : Int32} (e1 : xs (i4 + 1).toNatClampNeg = x1) (v1 : vp_in (i4 + 1) L) {x2 : Int32} (e2 : xs (i4 + 2).toNatClampNeg = x2) (v2 : vp_in (i4 + 2) L) {mS' : Mem} {mH' : Mem} {hs' : (Nat → PSt)} {mM' : Mem} {nM' : MemL} {k' : Nat} {r' rM : Int32} {cd : Int32} (hk : k' = 0 ∧ cd = 0 ∨ k' = 1 ∧ cd = 1 ∨ k' = 2 ∧ cd = 2) (hE8 : f_X8_setStrength x1 x2 imT imdP indP imdS imdB imdO imdR imdA indA imP inP imS imB imO imR imA inA imH ihs = some (k', r', mS', mH', hs')) (hE9 : f_X9_setStrength x1 x2 imM inM = some (rM, mM', nM')) (hth : mM' 8 0 = cd) (hr : k' = 0 → r' = rM) (kk : ∀ (o' : Nat → Int64) (H1 : Heap) (locs1 : List Loc) (ls1 : Array Slot), va_P D vwCl ([(bo, .inl (cy 1, 1, .inr (.inl o')))] ++ ((W_All cy aI aT adP adS adB adO adR adA aP aS aB aO aR aA aH ah imT imdP indP imdS imdB imdO imdR imdA indA imP inP mS' imB imO imR imA inA mH' hs') ++ (W_M cy aM mM' nM'))) H1 → va_D (LA s) ([(bo, .inl (cy 1, 1, .inr (.inl o')))] ++ ((W_All cy aI aT adP adS adB adO adR adA aP aS aB aO aR aA aH ah imT imdP indP imdS imdB imdO imdR imdA indA imP inP mS' imB imO imR imA inA mH' hs') ++ (W_M cy aM mM' nM'))) → va_S (LA s) s.heap H1 locs1 → lv_has ls1 9 [(0, .ref b), (1, .ref (aI 0)), (2, .ref (aM 0)), (3, .ref bo), (4, .int i4)] → W p l e room_1 s m #[Value.ref b] below meth c H1 locs1 (cells + 16) (slots + 96) Q (F0 m 2094 ls1 [])) : W p l e room_1 s m #[Value.ref b] below meth c H locs cells slots Q (F0 m 328 ls []) := by
  have hA : ∀ q : Nat, s.heap.size ≤ q → LA s q := fun _ h => h
  have hbA : ¬ LA s b := Nat.not_le.mpr hbl
  have hC : CallFix p m c code 9 s #[Value.ref b] lwA RL := ⟨hx, hb, hml, hown, hts⟩
  obtain ⟨o', ho⟩ : ∃ o', (if k' = 0 then vp_updL o 0 (r'.toInt64) else o) = o' := ⟨_, rfl⟩
  refine lv_aload_n hx hb dL_law_328 rfl (lv_at hl 1 rfl) ?_
  refine lv_aload_n hx hb dL_law_329 rfl (lv_at hl 0 rfl) ?_
  refine lv_iload hx hb dL_law_330 (lv_at hl 4 rfl) ?_
  refine lv_iconst (v := 1) hx hb dL_law_332 (by decide) ?_
  refine lv_iadd hx hb dL_law_333 ?_
  refine va_sld hx hb hXs hbl hbA hS v1 dL_law_334 ?_
  refine s_nm e1.symm ?_
  refine lv_aload_n hx hb dL_law_335 rfl (lv_at hl 0 rfl) ?_
  refine lv_iload hx hb dL_law_336 (lv_at hl 4 rfl) ?_
  refine lv_iconst (v := 2) hx hb dL_law_338 (by decide) ?_
  refine lv_iadd hx hb dL_law_339 ?_
  refine va_sld hx hb hXs hbl hbA hS v2 dL_law_340 ?_
  refine s_nm e2.symm ?_
  refine lv_aload_n hx hb dL_law_341 rfl (lv_at hl 3 rfl) ?_
  refine ki (X := []) (Y := (W_M cy aM imM inM)) (ws1 := [(bo, .inl (cy 1, 1, .inr (.inl o')))] ++ ((W_All cy aI aT adP adS adB adO adR adA aP aS aB aO aR aA aH ah imT imdP indP imdS imdB imdO imdR imdA indA imP inP mS' imB imO imR imA inA mH' hs') ++ (W_M cy aM imM inM))) (rH (X := []) (Y := (W_M cy aM imM inM)) (As := [.ref (aI 0), .int x1, .int x2, .ref bo]) (rest := []) hC (c_L_setStrength l hst D cy aI aT adP adS adB adO adR adA aP aS aB aO aR aA aH ah bo x1 x2 imT imdP indP imdS imdB imdO imdR imdA indA imP inP imS imB imO imR imA inA imH ihs o o' k' r' mS' mH' hs' cd hk ho hE8) (vx_cwSW (hh := [(0, 10, 13, 21), (0, 10, 17, 13)]) 4 hts gL_law_L_setStrength rfl rfl rfl (by decide +kernel) ⟨Nat.le_of_ble_eq_true rfl, Nat.le_of_ble_eq_true rfl⟩) hK hN hX hP hD hS hA (asm1 _ _ _) rfl hl.1 rfl (lv_room (Nat.le_of_ble_eq_true rfl)) dL_law_342 ⟨by show cells + 2 ≤ 601024; omega, by show slots + 12 ≤ 7293034; omega⟩) hP hD hS hA (asm1 _ _ _) (fst_L _ _ (fst_All cy aI aT adP adS adB adO adR adA aP aS aB aO aR aA aH ah imT imdP indP imdS imdB imdO imdR imdA indA imP inP imS imB imO imR imA inA imH ihs imT imdP indP imdS imdB imdO imdR imdA indA imP inP mS' imB imO imR imA inA mH' hs')) (asm1 _ _ _).symm (fun H locs hP hD hS => ?_)
  refine lv_istore (lv' := [(5, .int cd), (0, .ref b), (1, .ref (aI 0)), (2, .ref (aM 0)), (3, .ref bo), (4, .int i4)]) hx hb dL_law_345 hl (by decide) rfl (fun ls hl => ?_)
  refine lv_aload_n hx hb dL_law_347 rfl (lv_at hl 3 rfl) ?_
  refine lv_aload_n hx hb dL_law_348 rfl (lv_at hl 1 rfl) ?_
  refine lv_iload hx hb dL_law_349 (lv_at hl 5 rfl) ?_
  refine lv_iconst (v := 1) hx hb dL_law_351 (by decide) ?_
  refine lv_iadd hx hb dL_law_352 ?_
  refine va_sld hx hb hXs hbl hbA hS v1 dL_law_353 ?_
  refine s_nm e1.symm ?_
  refine lv_aload_n hx hb dL_law_354 rfl (lv_at hl 1 rfl) ?_
  refine lv_iload hx hb dL_law_355 (lv_at hl 5 rfl) ?_
  refine lv_iconst (v := 2) hx hb dL_law_357 (by decide) ?_
  refine lv_iadd hx hb dL_law_358 ?_
  refine va_sld hx hb hXs hbl hbA hS v2 dL_law_359 ?_
  refine s_nm e2.symm ?_
  refine ki (X := ([(bo, .inl (cy 1, 1, .inr (.inl o')))] ++ (W_All cy aI aT adP adS adB adO adR adA aP aS aB aO aR aA aH ah imT imdP indP imdS imdB imdO imdR imdA indA imP inP mS' imB imO imR imA inA mH' hs'))) (Y := []) (ws1 := [(bo, .inl (cy 1, 1, .inr (.inl o')))] ++ ((W_All cy aI aT adP adS adB adO adR adA aP aS aB aO aR aA aH ah imT imdP indP imdS imdB imdO imdR imdA indA imP inP mS' imB imO imR imA inA mH' hs') ++ (W_M cy aM mM' nM'))) (rV (X := ([(bo, .inl (cy 1, 1, .inr (.inl o')))] ++ (W_All cy aI aT adP adS adB adO adR adA aP aS aB aO aR aA aH ah imT imdP indP imdS imdB imdO imdR imdA indA imP inP mS' imB imO imR imA inA mH' hs'))) (Y := []) (As := [.int x1, .int x2]) (rest := []) hC (c_X9_setStrength l D cy aM x1 x2 imM inM rM mM' nM' hE9) (cwV 2 hts gL_law_X9_setStrength rfl rfl rfl cd_X9_setStrength ⟨Nat.le_of_ble_eq_true rfl, Nat.le_of_ble_eq_true rfl⟩) hK hN hP hD hS hA (asm2 _ _ _) 0 9 rfl rfl rfl hl.1 rfl (lv_room (Nat.le_of_ble_eq_true rfl)) dL_law_360 ⟨by show _ ≤ 601024; omega, by show _ ≤ 7293034; omega⟩) hP hD hS hA (asm2 _ _ _) rfl (asm2 _ _ _).symm (fun H locs hP hD hS => ?_)
  refine lv_istore (lv' := [(6, .int rM), (5, .int cd), (0, .ref b), (1, .ref (aI 0)), (2, .ref (aM 0)), (3, .ref bo), (4, .int i4)]) hx hb dL_law_363 hl (by decide) rfl (fun ls hl => ?_)
  refine lv_aload_n hx hb dL_law_365 rfl (lv_at hl 4 rfl) ?_
  refine ki (X := ([(bo, .inl (cy 1, 1, .inr (.inl o')))] ++ (W_All cy aI aT adP adS adB adO adR adA aP aS aB aO aR aA aH ah imT imdP indP imdS imdB imdO imdR imdA indA imP inP mS' imB imO imR imA inA mH' hs'))) (Y := []) (ws1 := [(bo, .inl (cy 1, 1, .inr (.inl o')))] ++ ((W_All cy aI aT adP adS adB adO adR adA aP aS aB aO aR aA aH ah imT imdP indP imdS imdB imdO imdR imdA indA imP inP mS' imB imO imR imA inA mH' hs') ++ (W_M cy aM mM' nM'))) (rV (X := ([(bo, .inl (cy 1, 1, .inr (.inl o')))] ++ (W_All cy aI aT adP adS adB adO adR adA aP aS aB aO aR aA aH ah imT imdP indP imdS imdB imdO imdR imdA indA imP inP mS' imB imO imR imA inA mH' hs'))) (Y := []) (As := []) (rest := []) hC (c_X9_thrown l D cy aM mM' nM' (mM' 8 0) rfl) (cwV 0 hts gL_law_X9_thrown rfl rfl rfl cd_X9_thrown ⟨Nat.le_of_ble_eq_true rfl, Nat.le_of_ble_eq_true rfl⟩) hK hN hP hD hS hA (asm2 _ _ _) 0 9 rfl rfl rfl hl.1 rfl (lv_room (Nat.le_of_ble_eq_true rfl)) dL_law_366 ⟨by show _ ≤ 601024; omega, by show _ ≤ 7293034; omega⟩) hP hD hS hA (asm2 _ _ _) rfl (asm2 _ _ _).symm (fun H locs hP hD hS => ?_)
  refine s_nm hth.symm ?_
  refine lv_iload hx hb dL_law_369 (lv_at hl 1 rfl) ?_
  refine lv_icmp_eq (tgt := 376) hx hb dL_law_371 (by decide) (fun _ => ?_) (fun q9 => absurd rfl q9)
  refine lv_iload hx hb dL_law_376 (lv_at hl 1 rfl) ?_
  refine lv_if_ne (tgt := 393) hx hb dL_law_378 (by decide) (fun q9 => ?_) (fun q9 => ?_)
  · refine lv_goto (tgt := 2094) hx hb dL_law_393 (by decide) ?_
    refine W.widen (k := cells + 16) (n := slots + 96) (by omega) (by omega) ?_
    exact kk o' _ _ _ hP hD hS (lv_sub hl [2, 3, 4, 5, 6] rfl)
  · have hk0 : k' = 0 := by rcases hk with ⟨a, c9⟩ | ⟨a, c9⟩ | ⟨a, c9⟩ <;> first | exact a | exact absurd (q9.symm.trans c9) (by decide)
    have ho0 : o' 0 = rM.toInt64 := by rw [← ho, if_pos hk0, hr hk0]; rfl
    refine lv_aload_n hx hb dL_law_381 rfl (lv_at hl 5 rfl) ?_
    refine lv_iconst (v := 0) hx hb dL_law_382 (by decide) ?_
    refine va_lald hx hb hK hP 0 1 rfl rfl (show ¬ ((0 : Int32) < 0 ∨ 1 ≤ (0 : Int32).toNatClampNeg) by decide) dL_law_383 ?_
    refine s_nmL (y := rM.toInt64) (by rw [← ho0]; rfl) ?_
    refine lv_iload hx hb dL_law_384 (lv_at hl 0 rfl) ?_
    refine lv_i2l hx hb dL_law_386 rfl ?_
    refine W.lcmp hx hb dL_law_387 ?_
    rw [lg_cmp_self]
    refine lv_if_eq (tgt := 393) hx hb dL_law_388 (by decide) (fun _ => ?_) (fun q9 => absurd rfl q9)
    refine lv_goto (tgt := 2094) hx hb dL_law_393 (by decide) ?_
    refine W.widen (k := cells + 16) (n := slots + 96) (by omega) (by omega) ?_
    exact kk o' _ _ _ hP hD hS (lv_sub hl [2, 3, 4, 5, 6] rfl)
set_option maxHeartbeats 40000000 in
set_option maxRecDepth 100000 in
theorem lc_setTemperature {p : Program} {l : Launch} (hst : l.stackTraces = false) {e : Env} {s : State} {m : MethodId} {below : List Frame} {meth : Method} {c : Code} {Q : State → Prop} {D : va_G} {cy : Nat → Nat} {b L : Nat} {xs : Nat → Int32} (hx : p.tables.exec = Jvm.exec) (hb : c.code = code) (hml : c.maxLocals = 9) (hown : s.vm.findClass RL = some m.cls) (hts : ∀ w ∈ lwA, w.before #[Value.ref b] s = true) (hXs : va_X b L xs s s.heap) (hbl : b < s.heap.size) (hK : va_K D vwCl (tyl cy) s) (hN : cG cy (LA s) s s.heap) (hX : cX s) {aI aT adP adS adB adO adR adA aP aS aB aO aR aA aH aM : Nat → Nat} {ah : Nat → Nat → Nat → Nat} {bo : Nat} {imT : Mem} {imdP : Mem} {indP : MemL} {imdS : Mem} {imdB : Mem} {imdO : Mem} {imdR : Mem} {imdA : Mem} {indA : MemL} {imP : Mem} {inP : MemL} {imS : Mem} {imB : Mem} {imO : Mem} {imR : Mem} {imA : Mem} {inA : MemL} {imH : Mem} {ihs : (Nat → PSt)} {imM : Mem} {inM : MemL} {o : Nat → Int64} {H : Heap} {locs : List Loc} {ls : Array Slot} {cells slots : Nat} {i4 : Int32} (hP : va_P D vwCl ([(bo, .inl (cy 1, 1, .inr (.inl o)))] ++ ((W_All cy aI aT adP adS adB adO adR adA aP aS aB aO aR aA aH ah imT imdP indP imdS imdB imdO imdR imdA indA imP inP imS imB imO imR imA inA imH ihs) ++ (W_M cy aM imM inM))) H) (hD : va_D (LA s) ([(bo, .inl (cy 1, 1, .inr (.inl o)))] ++ ((W_All cy aI aT adP adS adB adO adR adA aP aS aB aO aR aA aH ah imT imdP indP imdS imdB imdO imdR imdA indA imP inP imS imB imO imR imA inA imH ihs) ++ (W_M cy aM imM inM)))) (hS : va_S (LA s) s.heap H locs) (hl : lv_has ls 9 [(0, .ref b), (1, .ref (aI 0)), (2, .ref (aM 0)), (3, .ref bo), (4, .int i4)]) (hcl : cells + 16 ≤ 601024) (hsl : slots + 96 ≤ 7293034) {x1 : Int32} (e1 : xs (i4 + 1).toNatClampNeg = x1) (v1 : vp_in (i4 + 1) L) {x2 : Int32} (e2 : xs (i4 + 2).toNatClampNeg = x2) (v2 : vp_in (i4 + 2) L) {mP' : Mem} {mH' : Mem} {hs' : (Nat → PSt)} {mM' : Mem} {nM' : MemL} {k' : Nat} {r' rM : Int32} {cd : Int32} (hk : k' = 0 ∧ cd = 0 ∨ k' = 1 ∧ cd = 1 ∨ k' = 2 ∧ cd = 2) (hE8 : f_X8_setTemperature x1 x2 imT imdP indP imdS imdB imdO imdR imdA indA imP inP imS imB imO imR imA inA imH ihs = some (k', r', mP', mH', hs')) (hE9 : f_X9_setTemperature x1 x2 imM inM = some (rM, mM', nM')) (hth : mM' 8 0 = cd) (hr : k' = 0 → r' = rM) (kk : ∀ (o' : Nat → Int64) (H1 : Heap) (locs1 : List Loc) (ls1 : Array Slot), va_P D vwCl ([(bo, .inl (cy 1, 1, .inr (.inl o')))] ++ ((W_All cy aI aT adP adS adB adO adR adA aP aS aB aO aR aA aH ah imT imdP indP imdS imdB imdO imdR imdA indA mP' inP imS imB imO imR imA inA mH' hs') ++ (W_M cy aM mM' nM'))) H1 → va_D (LA s) ([(bo, .inl (cy 1, 1, .inr (.inl o')))] ++ ((W_All cy aI aT adP adS adB adO adR adA aP aS aB aO aR aA aH ah imT imdP indP imdS imdB imdO imdR imdA indA mP' inP imS imB imO imR imA inA mH' hs') ++ (W_M cy aM mM' nM'))) → va_S (LA s) s.heap H1 locs1 → lv_has ls1 9 [(0, .ref b), (1, .ref (aI 0)), (2, .ref (aM 0)), (3, .ref bo), (4, .int i4)] → W p l e room_1 s m #[Value.ref b] below meth c H1 locs1 (cells + 16) (slots + 96) Q (F0 m 2094 ls1 [])) : W p l e room_1 s m #[Value.ref b] below meth c H locs cells slots Q (F0 m 396 ls []) := by
  have hA : ∀ q : Nat, s.heap.size ≤ q → LA s q := fun _ h => h
  have hbA : ¬ LA s b := Nat.not_le.mpr hbl
  have hC : CallFix p m c code 9 s #[Value.ref b] lwA RL := ⟨hx, hb, hml, hown, hts⟩
  obtain ⟨o', ho⟩ : ∃ o', (if k' = 0 then vp_updL o 0 (r'.toInt64) else o) = o' := ⟨_, rfl⟩
  refine lv_aload_n hx hb dL_law_396 rfl (lv_at hl 1 rfl) ?_
  refine lv_aload_n hx hb dL_law_397 rfl (lv_at hl 0 rfl) ?_
  refine lv_iload hx hb dL_law_398 (lv_at hl 4 rfl) ?_
  refine lv_iconst (v := 1) hx hb dL_law_400 (by decide) ?_
  refine lv_iadd hx hb dL_law_401 ?_
  refine va_sld hx hb hXs hbl hbA hS v1 dL_law_402 ?_
  refine s_nm e1.symm ?_
  refine lv_aload_n hx hb dL_law_403 rfl (lv_at hl 0 rfl) ?_
  refine lv_iload hx hb dL_law_404 (lv_at hl 4 rfl) ?_
  refine lv_iconst (v := 2) hx hb dL_law_406 (by decide) ?_
  refine lv_iadd hx hb dL_law_407 ?_
  refine va_sld hx hb hXs hbl hbA hS v2 dL_law_408 ?_
  refine s_nm e2.symm ?_
  refine lv_aload_n hx hb dL_law_409 rfl (lv_at hl 3 rfl) ?_
  refine ki (X := []) (Y := (W_M cy aM imM inM)) (ws1 := [(bo, .inl (cy 1, 1, .inr (.inl o')))] ++ ((W_All cy aI aT adP adS adB adO adR adA aP aS aB aO aR aA aH ah imT imdP indP imdS imdB imdO imdR imdA indA mP' inP imS imB imO imR imA inA mH' hs') ++ (W_M cy aM imM inM))) (rH (X := []) (Y := (W_M cy aM imM inM)) (As := [.ref (aI 0), .int x1, .int x2, .ref bo]) (rest := []) hC (c_L_setTemperature l hst D cy aI aT adP adS adB adO adR adA aP aS aB aO aR aA aH ah bo x1 x2 imT imdP indP imdS imdB imdO imdR imdA indA imP inP imS imB imO imR imA inA imH ihs o o' k' r' mP' mH' hs' cd hk ho hE8) (vx_cwSW (hh := [(0, 10, 13, 21), (0, 10, 17, 13)]) 4 hts gL_law_L_setTemperature rfl rfl rfl (by decide +kernel) ⟨Nat.le_of_ble_eq_true rfl, Nat.le_of_ble_eq_true rfl⟩) hK hN hX hP hD hS hA (asm1 _ _ _) rfl hl.1 rfl (lv_room (Nat.le_of_ble_eq_true rfl)) dL_law_410 ⟨by show cells + 2 ≤ 601024; omega, by show slots + 12 ≤ 7293034; omega⟩) hP hD hS hA (asm1 _ _ _) (fst_L _ _ (fst_All cy aI aT adP adS adB adO adR adA aP aS aB aO aR aA aH ah imT imdP indP imdS imdB imdO imdR imdA indA imP inP imS imB imO imR imA inA imH ihs imT imdP indP imdS imdB imdO imdR imdA indA mP' inP imS imB imO imR imA inA mH' hs')) (asm1 _ _ _).symm (fun H locs hP hD hS => ?_)
  refine lv_istore (lv' := [(5, .int cd), (0, .ref b), (1, .ref (aI 0)), (2, .ref (aM 0)), (3, .ref bo), (4, .int i4)]) hx hb dL_law_413 hl (by decide) rfl (fun ls hl => ?_)
  refine lv_aload_n hx hb dL_law_415 rfl (lv_at hl 3 rfl) ?_
  refine lv_aload_n hx hb dL_law_416 rfl (lv_at hl 1 rfl) ?_
  refine lv_iload hx hb dL_law_417 (lv_at hl 5 rfl) ?_
  refine lv_iconst (v := 1) hx hb dL_law_419 (by decide) ?_
  refine lv_iadd hx hb dL_law_420 ?_
  refine va_sld hx hb hXs hbl hbA hS v1 dL_law_421 ?_
  refine s_nm e1.symm ?_
  refine lv_aload_n hx hb dL_law_422 rfl (lv_at hl 1 rfl) ?_
  refine lv_iload hx hb dL_law_423 (lv_at hl 5 rfl) ?_
  refine lv_iconst (v := 2) hx hb dL_law_425 (by decide) ?_
  refine lv_iadd hx hb dL_law_426 ?_
  refine va_sld hx hb hXs hbl hbA hS v2 dL_law_427 ?_
  refine s_nm e2.symm ?_
  refine ki (X := ([(bo, .inl (cy 1, 1, .inr (.inl o')))] ++ (W_All cy aI aT adP adS adB adO adR adA aP aS aB aO aR aA aH ah imT imdP indP imdS imdB imdO imdR imdA indA mP' inP imS imB imO imR imA inA mH' hs'))) (Y := []) (ws1 := [(bo, .inl (cy 1, 1, .inr (.inl o')))] ++ ((W_All cy aI aT adP adS adB adO adR adA aP aS aB aO aR aA aH ah imT imdP indP imdS imdB imdO imdR imdA indA mP' inP imS imB imO imR imA inA mH' hs') ++ (W_M cy aM mM' nM'))) (rV (X := ([(bo, .inl (cy 1, 1, .inr (.inl o')))] ++ (W_All cy aI aT adP adS adB adO adR adA aP aS aB aO aR aA aH ah imT imdP indP imdS imdB imdO imdR imdA indA mP' inP imS imB imO imR imA inA mH' hs'))) (Y := []) (As := [.int x1, .int x2]) (rest := []) hC (c_X9_setTemperature l D cy aM x1 x2 imM inM rM mM' nM' hE9) (cwV 2 hts gL_law_X9_setTemperature rfl rfl rfl cd_X9_setTemperature ⟨Nat.le_of_ble_eq_true rfl, Nat.le_of_ble_eq_true rfl⟩) hK hN hP hD hS hA (asm2 _ _ _) 0 9 rfl rfl rfl hl.1 rfl (lv_room (Nat.le_of_ble_eq_true rfl)) dL_law_428 ⟨by show _ ≤ 601024; omega, by show _ ≤ 7293034; omega⟩) hP hD hS hA (asm2 _ _ _) rfl (asm2 _ _ _).symm (fun H locs hP hD hS => ?_)
  refine lv_istore (lv' := [(6, .int rM), (5, .int cd), (0, .ref b), (1, .ref (aI 0)), (2, .ref (aM 0)), (3, .ref bo), (4, .int i4)]) hx hb dL_law_431 hl (by decide) rfl (fun ls hl => ?_)
  refine lv_aload_n hx hb dL_law_433 rfl (lv_at hl 4 rfl) ?_
  refine ki (X := ([(bo, .inl (cy 1, 1, .inr (.inl o')))] ++ (W_All cy aI aT adP adS adB adO adR adA aP aS aB aO aR aA aH ah imT imdP indP imdS imdB imdO imdR imdA indA mP' inP imS imB imO imR imA inA mH' hs'))) (Y := []) (ws1 := [(bo, .inl (cy 1, 1, .inr (.inl o')))] ++ ((W_All cy aI aT adP adS adB adO adR adA aP aS aB aO aR aA aH ah imT imdP indP imdS imdB imdO imdR imdA indA mP' inP imS imB imO imR imA inA mH' hs') ++ (W_M cy aM mM' nM'))) (rV (X := ([(bo, .inl (cy 1, 1, .inr (.inl o')))] ++ (W_All cy aI aT adP adS adB adO adR adA aP aS aB aO aR aA aH ah imT imdP indP imdS imdB imdO imdR imdA indA mP' inP imS imB imO imR imA inA mH' hs'))) (Y := []) (As := []) (rest := []) hC (c_X9_thrown l D cy aM mM' nM' (mM' 8 0) rfl) (cwV 0 hts gL_law_X9_thrown rfl rfl rfl cd_X9_thrown ⟨Nat.le_of_ble_eq_true rfl, Nat.le_of_ble_eq_true rfl⟩) hK hN hP hD hS hA (asm2 _ _ _) 0 9 rfl rfl rfl hl.1 rfl (lv_room (Nat.le_of_ble_eq_true rfl)) dL_law_434 ⟨by show _ ≤ 601024; omega, by show _ ≤ 7293034; omega⟩) hP hD hS hA (asm2 _ _ _) rfl (asm2 _ _ _).symm (fun H locs hP hD hS => ?_)
  refine s_nm hth.symm ?_
  refine lv_iload hx hb dL_law_437 (lv_at hl 1 rfl) ?_
  refine lv_icmp_eq (tgt := 444) hx hb dL_law_439 (by decide) (fun _ => ?_) (fun q9 => absurd rfl q9)
  refine lv_iload hx hb dL_law_444 (lv_at hl 1 rfl) ?_
  refine lv_if_ne (tgt := 461) hx hb dL_law_446 (by decide) (fun q9 => ?_) (fun q9 => ?_)
  · refine lv_goto (tgt := 2094) hx hb dL_law_461 (by decide) ?_
    refine W.widen (k := cells + 16) (n := slots + 96) (by omega) (by omega) ?_
    exact kk o' _ _ _ hP hD hS (lv_sub hl [2, 3, 4, 5, 6] rfl)
  · have hk0 : k' = 0 := by rcases hk with ⟨a, c9⟩ | ⟨a, c9⟩ | ⟨a, c9⟩ <;> first | exact a | exact absurd (q9.symm.trans c9) (by decide)
    have ho0 : o' 0 = rM.toInt64 := by rw [← ho, if_pos hk0, hr hk0]; rfl
    refine lv_aload_n hx hb dL_law_449 rfl (lv_at hl 5 rfl) ?_
    refine lv_iconst (v := 0) hx hb dL_law_450 (by decide) ?_
    refine va_lald hx hb hK hP 0 1 rfl rfl (show ¬ ((0 : Int32) < 0 ∨ 1 ≤ (0 : Int32).toNatClampNeg) by decide) dL_law_451 ?_
    refine s_nmL (y := rM.toInt64) (by rw [← ho0]; rfl) ?_
    refine lv_iload hx hb dL_law_452 (lv_at hl 0 rfl) ?_
    refine lv_i2l hx hb dL_law_454 rfl ?_
    refine W.lcmp hx hb dL_law_455 ?_
    rw [lg_cmp_self]
    refine lv_if_eq (tgt := 461) hx hb dL_law_456 (by decide) (fun _ => ?_) (fun q9 => absurd rfl q9)
    refine lv_goto (tgt := 2094) hx hb dL_law_461 (by decide) ?_
    refine W.widen (k := cells + 16) (n := slots + 96) (by omega) (by omega) ?_
    exact kk o' _ _ _ hP hD hS (lv_sub hl [2, 3, 4, 5, 6] rfl)
set_option maxHeartbeats 40000000 in
set_option maxRecDepth 100000 in
theorem lc_set {p : Program} {l : Launch} (hst : l.stackTraces = false) {e : Env} {s : State} {m : MethodId} {below : List Frame} {meth : Method} {c : Code} {Q : State → Prop} {D : va_G} {cy : Nat → Nat} {b L : Nat} {xs : Nat → Int32} (hx : p.tables.exec = Jvm.exec) (hb : c.code = code) (hml : c.maxLocals = 9) (hown : s.vm.findClass RL = some m.cls) (hts : ∀ w ∈ lwA, w.before #[Value.ref b] s = true) (hXs : va_X b L xs s s.heap) (hbl : b < s.heap.size) (hK : va_K D vwCl (tyl cy) s) (hN : cG cy (LA s) s s.heap) (hX : cX s) {aI aT adP adS adB adO adR adA aP aS aB aO aR aA aH aM : Nat → Nat} {ah : Nat → Nat → Nat → Nat} {bo : Nat} {imT : Mem} {imdP : Mem} {indP : MemL} {imdS : Mem} {imdB : Mem} {imdO : Mem} {imdR : Mem} {imdA : Mem} {indA : MemL} {imP : Mem} {inP : MemL} {imS : Mem} {imB : Mem} {imO : Mem} {imR : Mem} {imA : Mem} {inA : MemL} {imH : Mem} {ihs : (Nat → PSt)} {imM : Mem} {inM : MemL} {o : Nat → Int64} {H : Heap} {locs : List Loc} {ls : Array Slot} {cells slots : Nat} {i4 : Int32} (hP : va_P D vwCl ([(bo, .inl (cy 1, 1, .inr (.inl o)))] ++ ((W_All cy aI aT adP adS adB adO adR adA aP aS aB aO aR aA aH ah imT imdP indP imdS imdB imdO imdR imdA indA imP inP imS imB imO imR imA inA imH ihs) ++ (W_M cy aM imM inM))) H) (hD : va_D (LA s) ([(bo, .inl (cy 1, 1, .inr (.inl o)))] ++ ((W_All cy aI aT adP adS adB adO adR adA aP aS aB aO aR aA aH ah imT imdP indP imdS imdB imdO imdR imdA indA imP inP imS imB imO imR imA inA imH ihs) ++ (W_M cy aM imM inM)))) (hS : va_S (LA s) s.heap H locs) (hl : lv_has ls 9 [(0, .ref b), (1, .ref (aI 0)), (2, .ref (aM 0)), (3, .ref bo), (4, .int i4)]) (hcl : cells + 16 ≤ 601024) (hsl : slots + 96 ≤ 7293034) {x1 : Int32} (e1 : xs (i4 + 1).toNatClampNeg = x1) (v1 : vp_in (i4 + 1) L) {x2 : Int32} (e2 : xs (i4 + 2).toNatClampNeg = x2) (v2 : vp_in (i4 + 2) L) {mP' : Mem} {mH' : Mem} {hs' : (Nat → PSt)} {mM' : Mem} {nM' : MemL} {k' : Nat} {r' rM : Int32} {cd : Int32} (hk : k' = 0 ∧ cd = 0 ∨ k' = 1 ∧ cd = 1 ∨ k' = 2 ∧ cd = 2) (hE8 : f_X8_set x1 x2 imT imdP indP imdS imdB imdO imdR imdA indA imP inP imS imB imO imR imA inA imH ihs = some (k', r', mP', mH', hs')) (hE9 : f_X9_set x1 x2 imM inM = some (rM, mM', nM')) (hth : mM' 8 0 = cd) (hr : k' = 0 → r' = rM) (kk : ∀ (o' : Nat → Int64) (H1 : Heap) (locs1 : List Loc) (ls1 : Array Slot), va_P D vwCl ([(bo, .inl (cy 1, 1, .inr (.inl o')))] ++ ((W_All cy aI aT adP adS adB adO adR adA aP aS aB aO aR aA aH ah imT imdP indP imdS imdB imdO imdR imdA indA mP' inP imS imB imO imR imA inA mH' hs') ++ (W_M cy aM mM' nM'))) H1 → va_D (LA s) ([(bo, .inl (cy 1, 1, .inr (.inl o')))] ++ ((W_All cy aI aT adP adS adB adO adR adA aP aS aB aO aR aA aH ah imT imdP indP imdS imdB imdO imdR imdA indA mP' inP imS imB imO imR imA inA mH' hs') ++ (W_M cy aM mM' nM'))) → va_S (LA s) s.heap H1 locs1 → lv_has ls1 9 [(0, .ref b), (1, .ref (aI 0)), (2, .ref (aM 0)), (3, .ref bo), (4, .int i4)] → W p l e room_1 s m #[Value.ref b] below meth c H1 locs1 (cells + 16) (slots + 96) Q (F0 m 2094 ls1 [])) : W p l e room_1 s m #[Value.ref b] below meth c H locs cells slots Q (F0 m 464 ls []) := by
  have hA : ∀ q : Nat, s.heap.size ≤ q → LA s q := fun _ h => h
  have hbA : ¬ LA s b := Nat.not_le.mpr hbl
  have hC : CallFix p m c code 9 s #[Value.ref b] lwA RL := ⟨hx, hb, hml, hown, hts⟩
  obtain ⟨o', ho⟩ : ∃ o', (if k' = 0 then vp_updL o 0 (r'.toInt64) else o) = o' := ⟨_, rfl⟩
  refine lv_aload_n hx hb dL_law_464 rfl (lv_at hl 1 rfl) ?_
  refine lv_aload_n hx hb dL_law_465 rfl (lv_at hl 0 rfl) ?_
  refine lv_iload hx hb dL_law_466 (lv_at hl 4 rfl) ?_
  refine lv_iconst (v := 1) hx hb dL_law_468 (by decide) ?_
  refine lv_iadd hx hb dL_law_469 ?_
  refine va_sld hx hb hXs hbl hbA hS v1 dL_law_470 ?_
  refine s_nm e1.symm ?_
  refine lv_aload_n hx hb dL_law_471 rfl (lv_at hl 0 rfl) ?_
  refine lv_iload hx hb dL_law_472 (lv_at hl 4 rfl) ?_
  refine lv_iconst (v := 2) hx hb dL_law_474 (by decide) ?_
  refine lv_iadd hx hb dL_law_475 ?_
  refine va_sld hx hb hXs hbl hbA hS v2 dL_law_476 ?_
  refine s_nm e2.symm ?_
  refine lv_aload_n hx hb dL_law_477 rfl (lv_at hl 3 rfl) ?_
  refine ki (X := []) (Y := (W_M cy aM imM inM)) (ws1 := [(bo, .inl (cy 1, 1, .inr (.inl o')))] ++ ((W_All cy aI aT adP adS adB adO adR adA aP aS aB aO aR aA aH ah imT imdP indP imdS imdB imdO imdR imdA indA mP' inP imS imB imO imR imA inA mH' hs') ++ (W_M cy aM imM inM))) (rH (X := []) (Y := (W_M cy aM imM inM)) (As := [.ref (aI 0), .int x1, .int x2, .ref bo]) (rest := []) hC (c_L_set l hst D cy aI aT adP adS adB adO adR adA aP aS aB aO aR aA aH ah bo x1 x2 imT imdP indP imdS imdB imdO imdR imdA indA imP inP imS imB imO imR imA inA imH ihs o o' k' r' mP' mH' hs' cd hk ho hE8) (vx_cwSW (hh := [(0, 10, 13, 21), (0, 10, 17, 13)]) 4 hts gL_law_L_set rfl rfl rfl (by decide +kernel) ⟨Nat.le_of_ble_eq_true rfl, Nat.le_of_ble_eq_true rfl⟩) hK hN hX hP hD hS hA (asm1 _ _ _) rfl hl.1 rfl (lv_room (Nat.le_of_ble_eq_true rfl)) dL_law_478 ⟨by show cells + 2 ≤ 601024; omega, by show slots + 12 ≤ 7293034; omega⟩) hP hD hS hA (asm1 _ _ _) (fst_L _ _ (fst_All cy aI aT adP adS adB adO adR adA aP aS aB aO aR aA aH ah imT imdP indP imdS imdB imdO imdR imdA indA imP inP imS imB imO imR imA inA imH ihs imT imdP indP imdS imdB imdO imdR imdA indA mP' inP imS imB imO imR imA inA mH' hs')) (asm1 _ _ _).symm (fun H locs hP hD hS => ?_)
  refine lv_istore (lv' := [(5, .int cd), (0, .ref b), (1, .ref (aI 0)), (2, .ref (aM 0)), (3, .ref bo), (4, .int i4)]) hx hb dL_law_481 hl (by decide) rfl (fun ls hl => ?_)
  refine lv_aload_n hx hb dL_law_483 rfl (lv_at hl 3 rfl) ?_
  refine lv_aload_n hx hb dL_law_484 rfl (lv_at hl 1 rfl) ?_
  refine lv_iload hx hb dL_law_485 (lv_at hl 5 rfl) ?_
  refine lv_iconst (v := 1) hx hb dL_law_487 (by decide) ?_
  refine lv_iadd hx hb dL_law_488 ?_
  refine va_sld hx hb hXs hbl hbA hS v1 dL_law_489 ?_
  refine s_nm e1.symm ?_
  refine lv_aload_n hx hb dL_law_490 rfl (lv_at hl 1 rfl) ?_
  refine lv_iload hx hb dL_law_491 (lv_at hl 5 rfl) ?_
  refine lv_iconst (v := 2) hx hb dL_law_493 (by decide) ?_
  refine lv_iadd hx hb dL_law_494 ?_
  refine va_sld hx hb hXs hbl hbA hS v2 dL_law_495 ?_
  refine s_nm e2.symm ?_
  refine ki (X := ([(bo, .inl (cy 1, 1, .inr (.inl o')))] ++ (W_All cy aI aT adP adS adB adO adR adA aP aS aB aO aR aA aH ah imT imdP indP imdS imdB imdO imdR imdA indA mP' inP imS imB imO imR imA inA mH' hs'))) (Y := []) (ws1 := [(bo, .inl (cy 1, 1, .inr (.inl o')))] ++ ((W_All cy aI aT adP adS adB adO adR adA aP aS aB aO aR aA aH ah imT imdP indP imdS imdB imdO imdR imdA indA mP' inP imS imB imO imR imA inA mH' hs') ++ (W_M cy aM mM' nM'))) (rV (X := ([(bo, .inl (cy 1, 1, .inr (.inl o')))] ++ (W_All cy aI aT adP adS adB adO adR adA aP aS aB aO aR aA aH ah imT imdP indP imdS imdB imdO imdR imdA indA mP' inP imS imB imO imR imA inA mH' hs'))) (Y := []) (As := [.int x1, .int x2]) (rest := []) hC (c_X9_set l D cy aM x1 x2 imM inM rM mM' nM' hE9) (cwV 2 hts gL_law_X9_set rfl rfl rfl cd_X9_set ⟨Nat.le_of_ble_eq_true rfl, Nat.le_of_ble_eq_true rfl⟩) hK hN hP hD hS hA (asm2 _ _ _) 0 9 rfl rfl rfl hl.1 rfl (lv_room (Nat.le_of_ble_eq_true rfl)) dL_law_496 ⟨by show _ ≤ 601024; omega, by show _ ≤ 7293034; omega⟩) hP hD hS hA (asm2 _ _ _) rfl (asm2 _ _ _).symm (fun H locs hP hD hS => ?_)
  refine lv_istore (lv' := [(6, .int rM), (5, .int cd), (0, .ref b), (1, .ref (aI 0)), (2, .ref (aM 0)), (3, .ref bo), (4, .int i4)]) hx hb dL_law_499 hl (by decide) rfl (fun ls hl => ?_)
  refine lv_aload_n hx hb dL_law_501 rfl (lv_at hl 4 rfl) ?_
  refine ki (X := ([(bo, .inl (cy 1, 1, .inr (.inl o')))] ++ (W_All cy aI aT adP adS adB adO adR adA aP aS aB aO aR aA aH ah imT imdP indP imdS imdB imdO imdR imdA indA mP' inP imS imB imO imR imA inA mH' hs'))) (Y := []) (ws1 := [(bo, .inl (cy 1, 1, .inr (.inl o')))] ++ ((W_All cy aI aT adP adS adB adO adR adA aP aS aB aO aR aA aH ah imT imdP indP imdS imdB imdO imdR imdA indA mP' inP imS imB imO imR imA inA mH' hs') ++ (W_M cy aM mM' nM'))) (rV (X := ([(bo, .inl (cy 1, 1, .inr (.inl o')))] ++ (W_All cy aI aT adP adS adB adO adR adA aP aS aB aO aR aA aH ah imT imdP indP imdS imdB imdO imdR imdA indA mP' inP imS imB imO imR imA inA mH' hs'))) (Y := []) (As := []) (rest := []) hC (c_X9_thrown l D cy aM mM' nM' (mM' 8 0) rfl) (cwV 0 hts gL_law_X9_thrown rfl rfl rfl cd_X9_thrown ⟨Nat.le_of_ble_eq_true rfl, Nat.le_of_ble_eq_true rfl⟩) hK hN hP hD hS hA (asm2 _ _ _) 0 9 rfl rfl rfl hl.1 rfl (lv_room (Nat.le_of_ble_eq_true rfl)) dL_law_502 ⟨by show _ ≤ 601024; omega, by show _ ≤ 7293034; omega⟩) hP hD hS hA (asm2 _ _ _) rfl (asm2 _ _ _).symm (fun H locs hP hD hS => ?_)
  refine s_nm hth.symm ?_
  refine lv_iload hx hb dL_law_505 (lv_at hl 1 rfl) ?_
  refine lv_icmp_eq (tgt := 512) hx hb dL_law_507 (by decide) (fun _ => ?_) (fun q9 => absurd rfl q9)
  refine lv_iload hx hb dL_law_512 (lv_at hl 1 rfl) ?_
  refine lv_if_ne (tgt := 529) hx hb dL_law_514 (by decide) (fun q9 => ?_) (fun q9 => ?_)
  · refine lv_goto (tgt := 2094) hx hb dL_law_529 (by decide) ?_
    refine W.widen (k := cells + 16) (n := slots + 96) (by omega) (by omega) ?_
    exact kk o' _ _ _ hP hD hS (lv_sub hl [2, 3, 4, 5, 6] rfl)
  · have hk0 : k' = 0 := by rcases hk with ⟨a, c9⟩ | ⟨a, c9⟩ | ⟨a, c9⟩ <;> first | exact a | exact absurd (q9.symm.trans c9) (by decide)
    have ho0 : o' 0 = rM.toInt64 := by rw [← ho, if_pos hk0, hr hk0]; rfl
    refine lv_aload_n hx hb dL_law_517 rfl (lv_at hl 5 rfl) ?_
    refine lv_iconst (v := 0) hx hb dL_law_518 (by decide) ?_
    refine va_lald hx hb hK hP 0 1 rfl rfl (show ¬ ((0 : Int32) < 0 ∨ 1 ≤ (0 : Int32).toNatClampNeg) by decide) dL_law_519 ?_
    refine s_nmL (y := rM.toInt64) (by rw [← ho0]; rfl) ?_
    refine lv_iload hx hb dL_law_520 (lv_at hl 0 rfl) ?_
    refine lv_i2l hx hb dL_law_522 rfl ?_
    refine W.lcmp hx hb dL_law_523 ?_
    rw [lg_cmp_self]
    refine lv_if_eq (tgt := 529) hx hb dL_law_524 (by decide) (fun _ => ?_) (fun q9 => absurd rfl q9)
    refine lv_goto (tgt := 2094) hx hb dL_law_529 (by decide) ?_
    refine W.widen (k := cells + 16) (n := slots + 96) (by omega) (by omega) ?_
    exact kk o' _ _ _ hP hD hS (lv_sub hl [2, 3, 4, 5, 6] rfl)
set_option maxHeartbeats 40000000 in
set_option maxRecDepth 100000 in
theorem lc_move {p : Program} {l : Launch} (hst : l.stackTraces = false) {e : Env} {s : State} {m : MethodId} {below : List Frame} {meth : Method} {c : Code} {Q : State → Prop} {D : va_G} {cy : Nat → Nat} {b L : Nat} {xs : Nat → Int32} (hx : p.tables.exec = Jvm.exec) (hb : c.code = code) (hml : c.maxLocals = 9) (hown : s.vm.findClass RL = some m.cls) (hts : ∀ w ∈ lwA, w.before #[Value.ref b] s = true) (hXs : va_X b L xs s s.heap) (hbl : b < s.heap.size) (hK : va_K D vwCl (tyl cy) s) (hN : cG cy (LA s) s s.heap) (hX : cX s) {aI aT adP adS adB adO adR adA aP aS aB aO aR aA aH aM : Nat → Nat} {ah : Nat → Nat → Nat → Nat} {bo : Nat} {imT : Mem} {imdP : Mem} {indP : MemL} {imdS : Mem} {imdB : Mem} {imdO : Mem} {imdR : Mem} {imdA : Mem} {indA : MemL} {imP : Mem} {inP : MemL} {imS : Mem} {imB : Mem} {imO : Mem} {imR : Mem} {imA : Mem} {inA : MemL} {imH : Mem} {ihs : (Nat → PSt)} {imM : Mem} {inM : MemL} {o : Nat → Int64} {H : Heap} {locs : List Loc} {ls : Array Slot} {cells slots : Nat} {i4 : Int32} (hP : va_P D vwCl ([(bo, .inl (cy 1, 1, .inr (.inl o)))] ++ ((W_All cy aI aT adP adS adB adO adR adA aP aS aB aO aR aA aH ah imT imdP indP imdS imdB imdO imdR imdA indA imP inP imS imB imO imR imA inA imH ihs) ++ (W_M cy aM imM inM))) H) (hD : va_D (LA s) ([(bo, .inl (cy 1, 1, .inr (.inl o)))] ++ ((W_All cy aI aT adP adS adB adO adR adA aP aS aB aO aR aA aH ah imT imdP indP imdS imdB imdO imdR imdA indA imP inP imS imB imO imR imA inA imH ihs) ++ (W_M cy aM imM inM)))) (hS : va_S (LA s) s.heap H locs) (hl : lv_has ls 9 [(0, .ref b), (1, .ref (aI 0)), (2, .ref (aM 0)), (3, .ref bo), (4, .int i4)]) (hcl : cells + 16 ≤ 601024) (hsl : slots + 96 ≤ 7293034) {x1 : Int32} (e1 : xs (i4 + 1).toNatClampNeg = x1) (v1 : vp_in (i4 + 1) L) {x2 : Int32} (e2 : xs (i4 + 2).toNatClampNeg = x2) (v2 : vp_in (i4 + 2) L) {mS' : Mem} {mH' : Mem} {hs' : (Nat → PSt)} {mM' : Mem} {nM' : MemL} {k' : Nat} {r' rM : Int32} {cd : Int32} (hk : k' = 0 ∧ cd = 0 ∨ k' = 1 ∧ cd = 1 ∨ k' = 2 ∧ cd = 2 ∨ k' = 3 ∧ cd = 3) (hE8 : f_X8_move x1 x2 imT imdP indP imdS imdB imdO imdR imdA indA imP inP imS imB imO imR imA inA imH ihs = some (k', r', mS', mH', hs')) (hE9 : f_X9_move x1 x2 imM inM = some (rM, mM', nM')) (hth : mM' 8 0 = cd) (hr : k' = 0 → r' = rM) (kk : ∀ (o' : Nat → Int64) (H1 : Heap) (locs1 : List Loc) (ls1 : Array Slot), va_P D vwCl ([(bo, .inl (cy 1, 1, .inr (.inl o')))] ++ ((W_All cy aI aT adP adS adB adO adR adA aP aS aB aO aR aA aH ah imT imdP indP imdS imdB imdO imdR imdA indA imP inP mS' imB imO imR imA inA mH' hs') ++ (W_M cy aM mM' nM'))) H1 → va_D (LA s) ([(bo, .inl (cy 1, 1, .inr (.inl o')))] ++ ((W_All cy aI aT adP adS adB adO adR adA aP aS aB aO aR aA aH ah imT imdP indP imdS imdB imdO imdR imdA indA imP inP mS' imB imO imR imA inA mH' hs') ++ (W_M cy aM mM' nM'))) → va_S (LA s) s.heap H1 locs1 → lv_has ls1 9 [(0, .ref b), (1, .ref (aI 0)), (2, .ref (aM 0)), (3, .ref bo), (4, .int i4)] → W p l e room_1 s m #[Value.ref b] below meth c H1 locs1 (cells + 16) (slots + 96) Q (F0 m 2094 ls1 [])) : W p l e room_1 s m #[Value.ref b] below meth c H locs cells slots Q (F0 m 532 ls []) := by
  have hA : ∀ q : Nat, s.heap.size ≤ q → LA s q := fun _ h => h
  have hbA : ¬ LA s b := Nat.not_le.mpr hbl
  have hC : CallFix p m c code 9 s #[Value.ref b] lwA RL := ⟨hx, hb, hml, hown, hts⟩
  obtain ⟨o', ho⟩ : ∃ o', (if k' = 0 then vp_updL o 0 (r'.toInt64) else o) = o' := ⟨_, rfl⟩
  refine lv_aload_n hx hb dL_law_532 rfl (lv_at hl 1 rfl) ?_
  refine lv_aload_n hx hb dL_law_533 rfl (lv_at hl 0 rfl) ?_
  refine lv_iload hx hb dL_law_534 (lv_at hl 4 rfl) ?_
  refine lv_iconst (v := 1) hx hb dL_law_536 (by decide) ?_
  refine lv_iadd hx hb dL_law_537 ?_
  refine va_sld hx hb hXs hbl hbA hS v1 dL_law_538 ?_
  refine s_nm e1.symm ?_
  refine lv_aload_n hx hb dL_law_539 rfl (lv_at hl 0 rfl) ?_
  refine lv_iload hx hb dL_law_540 (lv_at hl 4 rfl) ?_
  refine lv_iconst (v := 2) hx hb dL_law_542 (by decide) ?_
  refine lv_iadd hx hb dL_law_543 ?_
  refine va_sld hx hb hXs hbl hbA hS v2 dL_law_544 ?_
  refine s_nm e2.symm ?_
  refine lv_aload_n hx hb dL_law_545 rfl (lv_at hl 3 rfl) ?_
  refine ki (X := []) (Y := (W_M cy aM imM inM)) (ws1 := [(bo, .inl (cy 1, 1, .inr (.inl o')))] ++ ((W_All cy aI aT adP adS adB adO adR adA aP aS aB aO aR aA aH ah imT imdP indP imdS imdB imdO imdR imdA indA imP inP mS' imB imO imR imA inA mH' hs') ++ (W_M cy aM imM inM))) (rH (X := []) (Y := (W_M cy aM imM inM)) (As := [.ref (aI 0), .int x1, .int x2, .ref bo]) (rest := []) hC (c_L_move l hst D cy aI aT adP adS adB adO adR adA aP aS aB aO aR aA aH ah bo x1 x2 imT imdP indP imdS imdB imdO imdR imdA indA imP inP imS imB imO imR imA inA imH ihs o o' k' r' mS' mH' hs' cd hk ho hE8) (vx_cwSW (hh := [(0, 10, 13, 21), (0, 10, 17, 13), (0, 10, 21, 15)]) 4 hts gL_law_L_move rfl rfl rfl (by decide +kernel) ⟨Nat.le_of_ble_eq_true rfl, Nat.le_of_ble_eq_true rfl⟩) hK hN hX hP hD hS hA (asm1 _ _ _) rfl hl.1 rfl (lv_room (Nat.le_of_ble_eq_true rfl)) dL_law_546 ⟨by show cells + 1 ≤ 601024; omega, by show slots + 6 ≤ 7293034; omega⟩) hP hD hS hA (asm1 _ _ _) (fst_L _ _ (fst_All cy aI aT adP adS adB adO adR adA aP aS aB aO aR aA aH ah imT imdP indP imdS imdB imdO imdR imdA indA imP inP imS imB imO imR imA inA imH ihs imT imdP indP imdS imdB imdO imdR imdA indA imP inP mS' imB imO imR imA inA mH' hs')) (asm1 _ _ _).symm (fun H locs hP hD hS => ?_)
  refine lv_istore (lv' := [(5, .int cd), (0, .ref b), (1, .ref (aI 0)), (2, .ref (aM 0)), (3, .ref bo), (4, .int i4)]) hx hb dL_law_549 hl (by decide) rfl (fun ls hl => ?_)
  refine lv_aload_n hx hb dL_law_551 rfl (lv_at hl 3 rfl) ?_
  refine lv_aload_n hx hb dL_law_552 rfl (lv_at hl 1 rfl) ?_
  refine lv_iload hx hb dL_law_553 (lv_at hl 5 rfl) ?_
  refine lv_iconst (v := 1) hx hb dL_law_555 (by decide) ?_
  refine lv_iadd hx hb dL_law_556 ?_
  refine va_sld hx hb hXs hbl hbA hS v1 dL_law_557 ?_
  refine s_nm e1.symm ?_
  refine lv_aload_n hx hb dL_law_558 rfl (lv_at hl 1 rfl) ?_
  refine lv_iload hx hb dL_law_559 (lv_at hl 5 rfl) ?_
  refine lv_iconst (v := 2) hx hb dL_law_561 (by decide) ?_
  refine lv_iadd hx hb dL_law_562 ?_
  refine va_sld hx hb hXs hbl hbA hS v2 dL_law_563 ?_
  refine s_nm e2.symm ?_
  refine ki (X := ([(bo, .inl (cy 1, 1, .inr (.inl o')))] ++ (W_All cy aI aT adP adS adB adO adR adA aP aS aB aO aR aA aH ah imT imdP indP imdS imdB imdO imdR imdA indA imP inP mS' imB imO imR imA inA mH' hs'))) (Y := []) (ws1 := [(bo, .inl (cy 1, 1, .inr (.inl o')))] ++ ((W_All cy aI aT adP adS adB adO adR adA aP aS aB aO aR aA aH ah imT imdP indP imdS imdB imdO imdR imdA indA imP inP mS' imB imO imR imA inA mH' hs') ++ (W_M cy aM mM' nM'))) (rV (X := ([(bo, .inl (cy 1, 1, .inr (.inl o')))] ++ (W_All cy aI aT adP adS adB adO adR adA aP aS aB aO aR aA aH ah imT imdP indP imdS imdB imdO imdR imdA indA imP inP mS' imB imO imR imA inA mH' hs'))) (Y := []) (As := [.int x1, .int x2]) (rest := []) hC (c_X9_move l D cy aM x1 x2 imM inM rM mM' nM' hE9) (cwV 2 hts gL_law_X9_move rfl rfl rfl cd_X9_move ⟨Nat.le_of_ble_eq_true rfl, Nat.le_of_ble_eq_true rfl⟩) hK hN hP hD hS hA (asm2 _ _ _) 0 9 rfl rfl rfl hl.1 rfl (lv_room (Nat.le_of_ble_eq_true rfl)) dL_law_564 ⟨by show _ ≤ 601024; omega, by show _ ≤ 7293034; omega⟩) hP hD hS hA (asm2 _ _ _) rfl (asm2 _ _ _).symm (fun H locs hP hD hS => ?_)
  refine lv_istore (lv' := [(6, .int rM), (5, .int cd), (0, .ref b), (1, .ref (aI 0)), (2, .ref (aM 0)), (3, .ref bo), (4, .int i4)]) hx hb dL_law_567 hl (by decide) rfl (fun ls hl => ?_)
  refine lv_aload_n hx hb dL_law_569 rfl (lv_at hl 4 rfl) ?_
  refine ki (X := ([(bo, .inl (cy 1, 1, .inr (.inl o')))] ++ (W_All cy aI aT adP adS adB adO adR adA aP aS aB aO aR aA aH ah imT imdP indP imdS imdB imdO imdR imdA indA imP inP mS' imB imO imR imA inA mH' hs'))) (Y := []) (ws1 := [(bo, .inl (cy 1, 1, .inr (.inl o')))] ++ ((W_All cy aI aT adP adS adB adO adR adA aP aS aB aO aR aA aH ah imT imdP indP imdS imdB imdO imdR imdA indA imP inP mS' imB imO imR imA inA mH' hs') ++ (W_M cy aM mM' nM'))) (rV (X := ([(bo, .inl (cy 1, 1, .inr (.inl o')))] ++ (W_All cy aI aT adP adS adB adO adR adA aP aS aB aO aR aA aH ah imT imdP indP imdS imdB imdO imdR imdA indA imP inP mS' imB imO imR imA inA mH' hs'))) (Y := []) (As := []) (rest := []) hC (c_X9_thrown l D cy aM mM' nM' (mM' 8 0) rfl) (cwV 0 hts gL_law_X9_thrown rfl rfl rfl cd_X9_thrown ⟨Nat.le_of_ble_eq_true rfl, Nat.le_of_ble_eq_true rfl⟩) hK hN hP hD hS hA (asm2 _ _ _) 0 9 rfl rfl rfl hl.1 rfl (lv_room (Nat.le_of_ble_eq_true rfl)) dL_law_570 ⟨by show _ ≤ 601024; omega, by show _ ≤ 7293034; omega⟩) hP hD hS hA (asm2 _ _ _) rfl (asm2 _ _ _).symm (fun H locs hP hD hS => ?_)
  refine s_nm hth.symm ?_
  refine lv_iload hx hb dL_law_573 (lv_at hl 1 rfl) ?_
  refine lv_icmp_eq (tgt := 580) hx hb dL_law_575 (by decide) (fun _ => ?_) (fun q9 => absurd rfl q9)
  refine lv_iload hx hb dL_law_580 (lv_at hl 1 rfl) ?_
  refine lv_if_ne (tgt := 597) hx hb dL_law_582 (by decide) (fun q9 => ?_) (fun q9 => ?_)
  · refine lv_goto (tgt := 2094) hx hb dL_law_597 (by decide) ?_
    refine W.widen (k := cells + 16) (n := slots + 96) (by omega) (by omega) ?_
    exact kk o' _ _ _ hP hD hS (lv_sub hl [2, 3, 4, 5, 6] rfl)
  · have hk0 : k' = 0 := by rcases hk with ⟨a, c9⟩ | ⟨a, c9⟩ | ⟨a, c9⟩ | ⟨a, c9⟩ <;> first | exact a | exact absurd (q9.symm.trans c9) (by decide)
    have ho0 : o' 0 = rM.toInt64 := by rw [← ho, if_pos hk0, hr hk0]; rfl
    refine lv_aload_n hx hb dL_law_585 rfl (lv_at hl 5 rfl) ?_
    refine lv_iconst (v := 0) hx hb dL_law_586 (by decide) ?_
    refine va_lald hx hb hK hP 0 1 rfl rfl (show ¬ ((0 : Int32) < 0 ∨ 1 ≤ (0 : Int32).toNatClampNeg) by decide) dL_law_587 ?_
    refine s_nmL (y := rM.toInt64) (by rw [← ho0]; rfl) ?_
    refine lv_iload hx hb dL_law_588 (lv_at hl 0 rfl) ?_
    refine lv_i2l hx hb dL_law_590 rfl ?_
    refine W.lcmp hx hb dL_law_591 ?_
    rw [lg_cmp_self]
    refine lv_if_eq (tgt := 597) hx hb dL_law_592 (by decide) (fun _ => ?_) (fun q9 => absurd rfl q9)
    refine lv_goto (tgt := 2094) hx hb dL_law_597 (by decide) ?_
    refine W.widen (k := cells + 16) (n := slots + 96) (by omega) (by omega) ?_
    exact kk o' _ _ _ hP hD hS (lv_sub hl [2, 3, 4, 5, 6] rfl)
set_option maxHeartbeats 40000000 in
set_option maxRecDepth 100000 in
theorem lc_pass {p : Program} {l : Launch} (hst : l.stackTraces = false) {e : Env} {s : State} {m : MethodId} {below : List Frame} {meth : Method} {c : Code} {Q : State → Prop} {D : va_G} {cy : Nat → Nat} {b L : Nat} {xs : Nat → Int32} (hx : p.tables.exec = Jvm.exec) (hb : c.code = code) (hml : c.maxLocals = 9) (hown : s.vm.findClass RL = some m.cls) (hts : ∀ w ∈ lwA, w.before #[Value.ref b] s = true) (hXs : va_X b L xs s s.heap) (hbl : b < s.heap.size) (hK : va_K D vwCl (tyl cy) s) (hN : cG cy (LA s) s s.heap) (hX : cX s) {aI aT adP adS adB adO adR adA aP aS aB aO aR aA aH aM : Nat → Nat} {ah : Nat → Nat → Nat → Nat} {bo : Nat} {imT : Mem} {imdP : Mem} {indP : MemL} {imdS : Mem} {imdB : Mem} {imdO : Mem} {imdR : Mem} {imdA : Mem} {indA : MemL} {imP : Mem} {inP : MemL} {imS : Mem} {imB : Mem} {imO : Mem} {imR : Mem} {imA : Mem} {inA : MemL} {imH : Mem} {ihs : (Nat → PSt)} {imM : Mem} {inM : MemL} {o : Nat → Int64} {H : Heap} {locs : List Loc} {ls : Array Slot} {cells slots : Nat} {i4 : Int32} (hP : va_P D vwCl ([(bo, .inl (cy 1, 1, .inr (.inl o)))] ++ ((W_All cy aI aT adP adS adB adO adR adA aP aS aB aO aR aA aH ah imT imdP indP imdS imdB imdO imdR imdA indA imP inP imS imB imO imR imA inA imH ihs) ++ (W_M cy aM imM inM))) H) (hD : va_D (LA s) ([(bo, .inl (cy 1, 1, .inr (.inl o)))] ++ ((W_All cy aI aT adP adS adB adO adR adA aP aS aB aO aR aA aH ah imT imdP indP imdS imdB imdO imdR imdA indA imP inP imS imB imO imR imA inA imH ihs) ++ (W_M cy aM imM inM)))) (hS : va_S (LA s) s.heap H locs) (hl : lv_has ls 9 [(0, .ref b), (1, .ref (aI 0)), (2, .ref (aM 0)), (3, .ref bo), (4, .int i4)]) (hcl : cells + 16 ≤ 601024) (hsl : slots + 96 ≤ 7293034) {x1 : Int32} (e1 : xs (i4 + 1).toNatClampNeg = x1) (v1 : vp_in (i4 + 1) L) {mP' : Mem} {nP' : MemL} {mS' : Mem} {mB' : Mem} {mO' : Mem} {mR' : Mem} {mA' : Mem} {nA' : MemL} {mH' : Mem} {hs' : (Nat → PSt)} {mM' : Mem} {nM' : MemL} {k' : Nat} {r' rM : Int32} {cd : Int32} (hk : k' = 0 ∧ cd = 0 ∨ k' = 2 ∧ cd = 1 ∨ k' = 3 ∧ cd = 2) (hE8 : f_X8_pass x1 imT imdP indP imdS imdB imdO imdR imdA indA imP inP imS imB imO imR imA inA imH ihs = some (k', r', mP', nP', mS', mB', mO', mR', mA', nA', mH', hs')) (hE9 : f_X9_pass x1 imM inM = some (rM, mM', nM')) (hth : mM' 8 0 = cd) (hr : k' = 0 → r' = rM) (kk : ∀ (o' : Nat → Int64) (H1 : Heap) (locs1 : List Loc) (ls1 : Array Slot), va_P D vwCl ([(bo, .inl (cy 1, 1, .inr (.inl o')))] ++ ((W_All cy aI aT adP adS adB adO adR adA aP aS aB aO aR aA aH ah imT imdP indP imdS imdB imdO imdR imdA indA mP' nP' mS' mB' mO' mR' mA' nA' mH' hs') ++ (W_M cy aM mM' nM'))) H1 → va_D (LA s) ([(bo, .inl (cy 1, 1, .inr (.inl o')))] ++ ((W_All cy aI aT adP adS adB adO adR adA aP aS aB aO aR aA aH ah imT imdP indP imdS imdB imdO imdR imdA indA mP' nP' mS' mB' mO' mR' mA' nA' mH' hs') ++ (W_M cy aM mM' nM'))) → va_S (LA s) s.heap H1 locs1 → lv_has ls1 9 [(0, .ref b), (1, .ref (aI 0)), (2, .ref (aM 0)), (3, .ref bo), (4, .int i4)] → W p l e room_1 s m #[Value.ref b] below meth c H1 locs1 (cells + 16) (slots + 96) Q (F0 m 2094 ls1 [])) : W p l e room_1 s m #[Value.ref b] below meth c H locs cells slots Q (F0 m 600 ls []) := by
  have hA : ∀ q : Nat, s.heap.size ≤ q → LA s q := fun _ h => h
  have hbA : ¬ LA s b := Nat.not_le.mpr hbl
  have hC : CallFix p m c code 9 s #[Value.ref b] lwA RL := ⟨hx, hb, hml, hown, hts⟩
  obtain ⟨o', ho⟩ : ∃ o', (if k' = 0 then vp_updL o 0 (r'.toInt64) else o) = o' := ⟨_, rfl⟩
  refine lv_aload_n hx hb dL_law_600 rfl (lv_at hl 1 rfl) ?_
  refine lv_aload_n hx hb dL_law_601 rfl (lv_at hl 0 rfl) ?_
  refine lv_iload hx hb dL_law_602 (lv_at hl 4 rfl) ?_
  refine lv_iconst (v := 1) hx hb dL_law_604 (by decide) ?_
  refine lv_iadd hx hb dL_law_605 ?_
  refine va_sld hx hb hXs hbl hbA hS v1 dL_law_606 ?_
  refine s_nm e1.symm ?_
  refine lv_aload_n hx hb dL_law_607 rfl (lv_at hl 3 rfl) ?_
  refine ki (X := []) (Y := (W_M cy aM imM inM)) (ws1 := [(bo, .inl (cy 1, 1, .inr (.inl o')))] ++ ((W_All cy aI aT adP adS adB adO adR adA aP aS aB aO aR aA aH ah imT imdP indP imdS imdB imdO imdR imdA indA mP' nP' mS' mB' mO' mR' mA' nA' mH' hs') ++ (W_M cy aM imM inM))) (rH (X := []) (Y := (W_M cy aM imM inM)) (As := [.ref (aI 0), .int x1, .ref bo]) (rest := []) hC (c_L_pass l hst D cy aI aT adP adS adB adO adR adA aP aS aB aO aR aA aH ah bo x1 imT imdP indP imdS imdB imdO imdR imdA indA imP inP imS imB imO imR imA inA imH ihs o o' k' r' mP' nP' mS' mB' mO' mR' mA' nA' mH' hs' cd hk ho hE8) (vx_cwSW (hh := [(0, 9, 12, 13), (0, 9, 15, 15)]) 3 hts gL_law_L_pass rfl rfl rfl (by decide +kernel) ⟨Nat.le_of_ble_eq_true rfl, Nat.le_of_ble_eq_true rfl⟩) hK hN hX hP hD hS hA (asm1 _ _ _) rfl hl.1 rfl (lv_room (Nat.le_of_ble_eq_true rfl)) dL_law_608 ⟨by show cells + 1 ≤ 601024; omega, by show slots + 6 ≤ 7293034; omega⟩) hP hD hS hA (asm1 _ _ _) (fst_L _ _ (fst_All cy aI aT adP adS adB adO adR adA aP aS aB aO aR aA aH ah imT imdP indP imdS imdB imdO imdR imdA indA imP inP imS imB imO imR imA inA imH ihs imT imdP indP imdS imdB imdO imdR imdA indA mP' nP' mS' mB' mO' mR' mA' nA' mH' hs')) (asm1 _ _ _).symm (fun H locs hP hD hS => ?_)
  refine lv_istore (lv' := [(5, .int cd), (0, .ref b), (1, .ref (aI 0)), (2, .ref (aM 0)), (3, .ref bo), (4, .int i4)]) hx hb dL_law_611 hl (by decide) rfl (fun ls hl => ?_)
  refine lv_aload_n hx hb dL_law_613 rfl (lv_at hl 3 rfl) ?_
  refine lv_aload_n hx hb dL_law_614 rfl (lv_at hl 1 rfl) ?_
  refine lv_iload hx hb dL_law_615 (lv_at hl 5 rfl) ?_
  refine lv_iconst (v := 1) hx hb dL_law_617 (by decide) ?_
  refine lv_iadd hx hb dL_law_618 ?_
  refine va_sld hx hb hXs hbl hbA hS v1 dL_law_619 ?_
  refine s_nm e1.symm ?_
  refine ki (X := ([(bo, .inl (cy 1, 1, .inr (.inl o')))] ++ (W_All cy aI aT adP adS adB adO adR adA aP aS aB aO aR aA aH ah imT imdP indP imdS imdB imdO imdR imdA indA mP' nP' mS' mB' mO' mR' mA' nA' mH' hs'))) (Y := []) (ws1 := [(bo, .inl (cy 1, 1, .inr (.inl o')))] ++ ((W_All cy aI aT adP adS adB adO adR adA aP aS aB aO aR aA aH ah imT imdP indP imdS imdB imdO imdR imdA indA mP' nP' mS' mB' mO' mR' mA' nA' mH' hs') ++ (W_M cy aM mM' nM'))) (rV (X := ([(bo, .inl (cy 1, 1, .inr (.inl o')))] ++ (W_All cy aI aT adP adS adB adO adR adA aP aS aB aO aR aA aH ah imT imdP indP imdS imdB imdO imdR imdA indA mP' nP' mS' mB' mO' mR' mA' nA' mH' hs'))) (Y := []) (As := [.int x1]) (rest := []) hC (c_X9_pass l D cy aM x1 imM inM rM mM' nM' hE9) (cwV 1 hts gL_law_X9_pass rfl rfl rfl cd_X9_pass ⟨Nat.le_of_ble_eq_true rfl, Nat.le_of_ble_eq_true rfl⟩) hK hN hP hD hS hA (asm2 _ _ _) 0 9 rfl rfl rfl hl.1 rfl (lv_room (Nat.le_of_ble_eq_true rfl)) dL_law_620 ⟨by show _ ≤ 601024; omega, by show _ ≤ 7293034; omega⟩) hP hD hS hA (asm2 _ _ _) rfl (asm2 _ _ _).symm (fun H locs hP hD hS => ?_)
  refine lv_istore (lv' := [(6, .int rM), (5, .int cd), (0, .ref b), (1, .ref (aI 0)), (2, .ref (aM 0)), (3, .ref bo), (4, .int i4)]) hx hb dL_law_623 hl (by decide) rfl (fun ls hl => ?_)
  refine lv_aload_n hx hb dL_law_625 rfl (lv_at hl 4 rfl) ?_
  refine ki (X := ([(bo, .inl (cy 1, 1, .inr (.inl o')))] ++ (W_All cy aI aT adP adS adB adO adR adA aP aS aB aO aR aA aH ah imT imdP indP imdS imdB imdO imdR imdA indA mP' nP' mS' mB' mO' mR' mA' nA' mH' hs'))) (Y := []) (ws1 := [(bo, .inl (cy 1, 1, .inr (.inl o')))] ++ ((W_All cy aI aT adP adS adB adO adR adA aP aS aB aO aR aA aH ah imT imdP indP imdS imdB imdO imdR imdA indA mP' nP' mS' mB' mO' mR' mA' nA' mH' hs') ++ (W_M cy aM mM' nM'))) (rV (X := ([(bo, .inl (cy 1, 1, .inr (.inl o')))] ++ (W_All cy aI aT adP adS adB adO adR adA aP aS aB aO aR aA aH ah imT imdP indP imdS imdB imdO imdR imdA indA mP' nP' mS' mB' mO' mR' mA' nA' mH' hs'))) (Y := []) (As := []) (rest := []) hC (c_X9_thrown l D cy aM mM' nM' (mM' 8 0) rfl) (cwV 0 hts gL_law_X9_thrown rfl rfl rfl cd_X9_thrown ⟨Nat.le_of_ble_eq_true rfl, Nat.le_of_ble_eq_true rfl⟩) hK hN hP hD hS hA (asm2 _ _ _) 0 9 rfl rfl rfl hl.1 rfl (lv_room (Nat.le_of_ble_eq_true rfl)) dL_law_626 ⟨by show _ ≤ 601024; omega, by show _ ≤ 7293034; omega⟩) hP hD hS hA (asm2 _ _ _) rfl (asm2 _ _ _).symm (fun H locs hP hD hS => ?_)
  refine s_nm hth.symm ?_
  refine lv_iload hx hb dL_law_629 (lv_at hl 1 rfl) ?_
  refine lv_icmp_eq (tgt := 636) hx hb dL_law_631 (by decide) (fun _ => ?_) (fun q9 => absurd rfl q9)
  refine lv_iload hx hb dL_law_636 (lv_at hl 1 rfl) ?_
  refine lv_if_ne (tgt := 653) hx hb dL_law_638 (by decide) (fun q9 => ?_) (fun q9 => ?_)
  · refine lv_goto (tgt := 2094) hx hb dL_law_653 (by decide) ?_
    refine W.widen (k := cells + 16) (n := slots + 96) (by omega) (by omega) ?_
    exact kk o' _ _ _ hP hD hS (lv_sub hl [2, 3, 4, 5, 6] rfl)
  · have hk0 : k' = 0 := by rcases hk with ⟨a, c9⟩ | ⟨a, c9⟩ | ⟨a, c9⟩ <;> first | exact a | exact absurd (q9.symm.trans c9) (by decide)
    have ho0 : o' 0 = rM.toInt64 := by rw [← ho, if_pos hk0, hr hk0]; rfl
    refine lv_aload_n hx hb dL_law_641 rfl (lv_at hl 5 rfl) ?_
    refine lv_iconst (v := 0) hx hb dL_law_642 (by decide) ?_
    refine va_lald hx hb hK hP 0 1 rfl rfl (show ¬ ((0 : Int32) < 0 ∨ 1 ≤ (0 : Int32).toNatClampNeg) by decide) dL_law_643 ?_
    refine s_nmL (y := rM.toInt64) (by rw [← ho0]; rfl) ?_
    refine lv_iload hx hb dL_law_644 (lv_at hl 0 rfl) ?_
    refine lv_i2l hx hb dL_law_646 rfl ?_
    refine W.lcmp hx hb dL_law_647 ?_
    rw [lg_cmp_self]
    refine lv_if_eq (tgt := 653) hx hb dL_law_648 (by decide) (fun _ => ?_) (fun q9 => absurd rfl q9)
    refine lv_goto (tgt := 2094) hx hb dL_law_653 (by decide) ?_
    refine W.widen (k := cells + 16) (n := slots + 96) (by omega) (by omega) ?_
    exact kk o' _ _ _ hP hD hS (lv_sub hl [2, 3, 4, 5, 6] rfl)
set_option maxHeartbeats 40000000 in
set_option maxRecDepth 100000 in
theorem lc_addBoat {p : Program} {l : Launch} (hst : l.stackTraces = false) {e : Env} {s : State} {m : MethodId} {below : List Frame} {meth : Method} {c : Code} {Q : State → Prop} {D : va_G} {cy : Nat → Nat} {b L : Nat} {xs : Nat → Int32} (hx : p.tables.exec = Jvm.exec) (hb : c.code = code) (hml : c.maxLocals = 9) (hown : s.vm.findClass RL = some m.cls) (hts : ∀ w ∈ lwA, w.before #[Value.ref b] s = true) (hXs : va_X b L xs s s.heap) (hbl : b < s.heap.size) (hK : va_K D vwCl (tyl cy) s) (hN : cG cy (LA s) s s.heap) (hX : cX s) {aI aT adP adS adB adO adR adA aP aS aB aO aR aA aH aM : Nat → Nat} {ah : Nat → Nat → Nat → Nat} {bo : Nat} {imT : Mem} {imdP : Mem} {indP : MemL} {imdS : Mem} {imdB : Mem} {imdO : Mem} {imdR : Mem} {imdA : Mem} {indA : MemL} {imP : Mem} {inP : MemL} {imS : Mem} {imB : Mem} {imO : Mem} {imR : Mem} {imA : Mem} {inA : MemL} {imH : Mem} {ihs : (Nat → PSt)} {imM : Mem} {inM : MemL} {o : Nat → Int64} {H : Heap} {locs : List Loc} {ls : Array Slot} {cells slots : Nat} {i4 : Int32} (hP : va_P D vwCl ([(bo, .inl (cy 1, 1, .inr (.inl o)))] ++ ((W_All cy aI aT adP adS adB adO adR adA aP aS aB aO aR aA aH ah imT imdP indP imdS imdB imdO imdR imdA indA imP inP imS imB imO imR imA inA imH ihs) ++ (W_M cy aM imM inM))) H) (hD : va_D (LA s) ([(bo, .inl (cy 1, 1, .inr (.inl o)))] ++ ((W_All cy aI aT adP adS adB adO adR adA aP aS aB aO aR aA aH ah imT imdP indP imdS imdB imdO imdR imdA indA imP inP imS imB imO imR imA inA imH ihs) ++ (W_M cy aM imM inM)))) (hS : va_S (LA s) s.heap H locs) (hl : lv_has ls 9 [(0, .ref b), (1, .ref (aI 0)), (2, .ref (aM 0)), (3, .ref bo), (4, .int i4)]) (hcl : cells + 16 ≤ 601024) (hsl : slots + 96 ≤ 7293034) {x1 : Int32} (e1 : xs (i4 + 1).toNatClampNeg = x1) (v1 : vp_in (i4 + 1) L) {mB' : Mem} {mH' : Mem} {hs' : (Nat → PSt)} {mM' : Mem} {nM' : MemL} {k' : Nat} {r' rM : Int32} {cd : Int32} (hk : k' = 0 ∧ cd = 0 ∨ k' = 2 ∧ cd = 1 ∨ k' = 3 ∧ cd = 2) (hE8 : f_X8_addBoat x1 imT imdP indP imdS imdB imdO imdR imdA indA imP inP imS imB imO imR imA inA imH ihs = some (k', r', mB', mH', hs')) (hE9 : f_X9_addBoat x1 imM inM = some (rM, mM', nM')) (hth : mM' 8 0 = cd) (hr : k' = 0 → r' = rM) (kk : ∀ (o' : Nat → Int64) (H1 : Heap) (locs1 : List Loc) (ls1 : Array Slot), va_P D vwCl ([(bo, .inl (cy 1, 1, .inr (.inl o')))] ++ ((W_All cy aI aT adP adS adB adO adR adA aP aS aB aO aR aA aH ah imT imdP indP imdS imdB imdO imdR imdA indA imP inP imS mB' imO imR imA inA mH' hs') ++ (W_M cy aM mM' nM'))) H1 → va_D (LA s) ([(bo, .inl (cy 1, 1, .inr (.inl o')))] ++ ((W_All cy aI aT adP adS adB adO adR adA aP aS aB aO aR aA aH ah imT imdP indP imdS imdB imdO imdR imdA indA imP inP imS mB' imO imR imA inA mH' hs') ++ (W_M cy aM mM' nM'))) → va_S (LA s) s.heap H1 locs1 → lv_has ls1 9 [(0, .ref b), (1, .ref (aI 0)), (2, .ref (aM 0)), (3, .ref bo), (4, .int i4)] → W p l e room_1 s m #[Value.ref b] below meth c H1 locs1 (cells + 16) (slots + 96) Q (F0 m 2094 ls1 [])) : W p l e room_1 s m #[Value.ref b] below meth c H locs cells slots Q (F0 m 656 ls []) := by
  have hA : ∀ q : Nat, s.heap.size ≤ q → LA s q := fun _ h => h
  have hbA : ¬ LA s b := Nat.not_le.mpr hbl
  have hC : CallFix p m c code 9 s #[Value.ref b] lwA RL := ⟨hx, hb, hml, hown, hts⟩
  obtain ⟨o', ho⟩ : ∃ o', (if k' = 0 then vp_updL o 0 (r'.toInt64) else o) = o' := ⟨_, rfl⟩
  refine lv_aload_n hx hb dL_law_656 rfl (lv_at hl 1 rfl) ?_
  refine lv_aload_n hx hb dL_law_657 rfl (lv_at hl 0 rfl) ?_
  refine lv_iload hx hb dL_law_658 (lv_at hl 4 rfl) ?_
  refine lv_iconst (v := 1) hx hb dL_law_660 (by decide) ?_
  refine lv_iadd hx hb dL_law_661 ?_
  refine va_sld hx hb hXs hbl hbA hS v1 dL_law_662 ?_
  refine s_nm e1.symm ?_
  refine lv_aload_n hx hb dL_law_663 rfl (lv_at hl 3 rfl) ?_
  refine ki (X := []) (Y := (W_M cy aM imM inM)) (ws1 := [(bo, .inl (cy 1, 1, .inr (.inl o')))] ++ ((W_All cy aI aT adP adS adB adO adR adA aP aS aB aO aR aA aH ah imT imdP indP imdS imdB imdO imdR imdA indA imP inP imS mB' imO imR imA inA mH' hs') ++ (W_M cy aM imM inM))) (rH (X := []) (Y := (W_M cy aM imM inM)) (As := [.ref (aI 0), .int x1, .ref bo]) (rest := []) hC (c_L_addBoat l hst D cy aI aT adP adS adB adO adR adA aP aS aB aO aR aA aH ah bo x1 imT imdP indP imdS imdB imdO imdR imdA indA imP inP imS imB imO imR imA inA imH ihs o o' k' r' mB' mH' hs' cd hk ho hE8) (vx_cwSW (hh := [(0, 9, 12, 13), (0, 9, 15, 15)]) 3 hts gL_law_L_addBoat rfl rfl rfl (by decide +kernel) ⟨Nat.le_of_ble_eq_true rfl, Nat.le_of_ble_eq_true rfl⟩) hK hN hX hP hD hS hA (asm1 _ _ _) rfl hl.1 rfl (lv_room (Nat.le_of_ble_eq_true rfl)) dL_law_664 ⟨by show cells + 2 ≤ 601024; omega, by show slots + 12 ≤ 7293034; omega⟩) hP hD hS hA (asm1 _ _ _) (fst_L _ _ (fst_All cy aI aT adP adS adB adO adR adA aP aS aB aO aR aA aH ah imT imdP indP imdS imdB imdO imdR imdA indA imP inP imS imB imO imR imA inA imH ihs imT imdP indP imdS imdB imdO imdR imdA indA imP inP imS mB' imO imR imA inA mH' hs')) (asm1 _ _ _).symm (fun H locs hP hD hS => ?_)
  refine lv_istore (lv' := [(5, .int cd), (0, .ref b), (1, .ref (aI 0)), (2, .ref (aM 0)), (3, .ref bo), (4, .int i4)]) hx hb dL_law_667 hl (by decide) rfl (fun ls hl => ?_)
  refine lv_aload_n hx hb dL_law_669 rfl (lv_at hl 3 rfl) ?_
  refine lv_aload_n hx hb dL_law_670 rfl (lv_at hl 1 rfl) ?_
  refine lv_iload hx hb dL_law_671 (lv_at hl 5 rfl) ?_
  refine lv_iconst (v := 1) hx hb dL_law_673 (by decide) ?_
  refine lv_iadd hx hb dL_law_674 ?_
  refine va_sld hx hb hXs hbl hbA hS v1 dL_law_675 ?_
  refine s_nm e1.symm ?_
  refine ki (X := ([(bo, .inl (cy 1, 1, .inr (.inl o')))] ++ (W_All cy aI aT adP adS adB adO adR adA aP aS aB aO aR aA aH ah imT imdP indP imdS imdB imdO imdR imdA indA imP inP imS mB' imO imR imA inA mH' hs'))) (Y := []) (ws1 := [(bo, .inl (cy 1, 1, .inr (.inl o')))] ++ ((W_All cy aI aT adP adS adB adO adR adA aP aS aB aO aR aA aH ah imT imdP indP imdS imdB imdO imdR imdA indA imP inP imS mB' imO imR imA inA mH' hs') ++ (W_M cy aM mM' nM'))) (rV (X := ([(bo, .inl (cy 1, 1, .inr (.inl o')))] ++ (W_All cy aI aT adP adS adB adO adR adA aP aS aB aO aR aA aH ah imT imdP indP imdS imdB imdO imdR imdA indA imP inP imS mB' imO imR imA inA mH' hs'))) (Y := []) (As := [.int x1]) (rest := []) hC (c_X9_addBoat l D cy aM x1 imM inM rM mM' nM' hE9) (cwV 1 hts gL_law_X9_addBoat rfl rfl rfl cd_X9_addBoat ⟨Nat.le_of_ble_eq_true rfl, Nat.le_of_ble_eq_true rfl⟩) hK hN hP hD hS hA (asm2 _ _ _) 0 9 rfl rfl rfl hl.1 rfl (lv_room (Nat.le_of_ble_eq_true rfl)) dL_law_676 ⟨by show _ ≤ 601024; omega, by show _ ≤ 7293034; omega⟩) hP hD hS hA (asm2 _ _ _) rfl (asm2 _ _ _).symm (fun H locs hP hD hS => ?_)
  refine lv_istore (lv' := [(6, .int rM), (5, .int cd), (0, .ref b), (1, .ref (aI 0)), (2, .ref (aM 0)), (3, .ref bo), (4, .int i4)]) hx hb dL_law_679 hl (by decide) rfl (fun ls hl => ?_)
  refine lv_aload_n hx hb dL_law_681 rfl (lv_at hl 4 rfl) ?_
  refine ki (X := ([(bo, .inl (cy 1, 1, .inr (.inl o')))] ++ (W_All cy aI aT adP adS adB adO adR adA aP aS aB aO aR aA aH ah imT imdP indP imdS imdB imdO imdR imdA indA imP inP imS mB' imO imR imA inA mH' hs'))) (Y := []) (ws1 := [(bo, .inl (cy 1, 1, .inr (.inl o')))] ++ ((W_All cy aI aT adP adS adB adO adR adA aP aS aB aO aR aA aH ah imT imdP indP imdS imdB imdO imdR imdA indA imP inP imS mB' imO imR imA inA mH' hs') ++ (W_M cy aM mM' nM'))) (rV (X := ([(bo, .inl (cy 1, 1, .inr (.inl o')))] ++ (W_All cy aI aT adP adS adB adO adR adA aP aS aB aO aR aA aH ah imT imdP indP imdS imdB imdO imdR imdA indA imP inP imS mB' imO imR imA inA mH' hs'))) (Y := []) (As := []) (rest := []) hC (c_X9_thrown l D cy aM mM' nM' (mM' 8 0) rfl) (cwV 0 hts gL_law_X9_thrown rfl rfl rfl cd_X9_thrown ⟨Nat.le_of_ble_eq_true rfl, Nat.le_of_ble_eq_true rfl⟩) hK hN hP hD hS hA (asm2 _ _ _) 0 9 rfl rfl rfl hl.1 rfl (lv_room (Nat.le_of_ble_eq_true rfl)) dL_law_682 ⟨by show _ ≤ 601024; omega, by show _ ≤ 7293034; omega⟩) hP hD hS hA (asm2 _ _ _) rfl (asm2 _ _ _).symm (fun H locs hP hD hS => ?_)
  refine s_nm hth.symm ?_
  refine lv_iload hx hb dL_law_685 (lv_at hl 1 rfl) ?_
  refine lv_icmp_eq (tgt := 692) hx hb dL_law_687 (by decide) (fun _ => ?_) (fun q9 => absurd rfl q9)
  refine lv_iload hx hb dL_law_692 (lv_at hl 1 rfl) ?_
  refine lv_if_ne (tgt := 709) hx hb dL_law_694 (by decide) (fun q9 => ?_) (fun q9 => ?_)
  · refine lv_goto (tgt := 2094) hx hb dL_law_709 (by decide) ?_
    refine W.widen (k := cells + 16) (n := slots + 96) (by omega) (by omega) ?_
    exact kk o' _ _ _ hP hD hS (lv_sub hl [2, 3, 4, 5, 6] rfl)
  · have hk0 : k' = 0 := by rcases hk with ⟨a, c9⟩ | ⟨a, c9⟩ | ⟨a, c9⟩ <;> first | exact a | exact absurd (q9.symm.trans c9) (by decide)
    have ho0 : o' 0 = rM.toInt64 := by rw [← ho, if_pos hk0, hr hk0]; rfl
    refine lv_aload_n hx hb dL_law_697 rfl (lv_at hl 5 rfl) ?_
    refine lv_iconst (v := 0) hx hb dL_law_698 (by decide) ?_
    refine va_lald hx hb hK hP 0 1 rfl rfl (show ¬ ((0 : Int32) < 0 ∨ 1 ≤ (0 : Int32).toNatClampNeg) by decide) dL_law_699 ?_
    refine s_nmL (y := rM.toInt64) (by rw [← ho0]; rfl) ?_
    refine lv_iload hx hb dL_law_700 (lv_at hl 0 rfl) ?_
    refine lv_i2l hx hb dL_law_702 rfl ?_
    refine W.lcmp hx hb dL_law_703 ?_
    rw [lg_cmp_self]
    refine lv_if_eq (tgt := 709) hx hb dL_law_704 (by decide) (fun _ => ?_) (fun q9 => absurd rfl q9)
    refine lv_goto (tgt := 2094) hx hb dL_law_709 (by decide) ?_
    refine W.widen (k := cells + 16) (n := slots + 96) (by omega) (by omega) ?_
    exact kk o' _ _ _ hP hD hS (lv_sub hl [2, 3, 4, 5, 6] rfl)
