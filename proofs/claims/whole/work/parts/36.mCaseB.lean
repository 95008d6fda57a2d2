set_option maxHeartbeats 40000000 in
set_option maxRecDepth 100000 in
theorem lc_setCatch {p : Program} {l : Launch} (hst : l.stackTraces = false) {e : Env} {s : State} {m : MethodId} {below : List Frame} {meth : Method} {c : Code} {Q : State → Prop} {D : va_G} {cy : Nat → Nat} {b L : Nat} {xs : Nat → Int32} (hx : p.tables.exec = Jvm.exec) (hb : c.code = code) (hml : c.maxLocals = 9) (hown : s.vm.findClass RL = some m.cls) (hts : ∀ w ∈ lwA, w.before #[Value.ref b] s = true) (hXs : va_X b L xs s s.heap) (hbl : b < s.heap.size) (hK : va_K D vwCl (tyl cy) s) (hN : cG cy (LA s) s s.heap) (hX : cX s) {aI aT adP adS adB adO adR adA aP aS aB aO aR aA aH aM : Nat → Nat} {ah : Nat → Nat → Nat → Nat} {bo : Nat} {imT : Mem} {imdP : Mem} {indP : MemL} {imdS : Mem} {imdB : Mem} {imdO : Mem} {imdR : Mem} {imdA : Mem} {indA : MemL} {imP : Mem} {inP : MemL} {imS : Mem} {imB : Mem} {imO : Mem} {imR : Mem} {imA : Mem} {inA : MemL} {imH : Mem} {ihs : (Nat → PSt)} {imM : Mem} {inM : MemL} {o : Nat → Int64} {H : Heap} {locs : List Loc} {ls : Array Slot} {cells slots : Nat} {i4 : Int32} (hP : va_P D vwCl ([(bo, .inl (cy 1, 1, .inr (.inl o)))] ++ ((W_All cy aI aT adP adS adB adO adR adA aP aS aB aO aR aA aH ah imT imdP indP imdS imdB imdO imdR imdA indA imP inP imS imB imO imR imA inA imH ihs) ++ (W_M cy aM imM inM))) H) (hD : va_D (LA s) ([(bo, .inl (cy 1, 1, .inr (.inl o)))] ++ ((W_All cy aI aT adP adS adB adO adR adA aP aS aB aO aR aA aH ah imT imdP indP imdS imdB imdO imdR imdA indA imP inP imS imB imO imR imA inA imH ihs) ++ (W_M cy aM imM inM)))) (hS : va_S (LA s) s.heap H locs) (hl : lv_has ls 9 [(0, .ref b), (1, .ref (aI 0)), (2, .ref (aM 0)), (3, .ref bo), (4, .int i4)]) (hcl : cells + 16 ≤ 601024) (hsl : slots + 96 ≤ 7293034) {x1 : Int32} (e1 : xs (i4 + 1).toNatClampNeg = x1) (v1 : vp_in (i4 + 1) L) {x2 : Int32} (e2 : xs (i4 + 2).toNatClampNeg = x2) (v2 : vp_in (i4 + 2) L) {mB' : Mem} {mH' : Mem} {hs' : (Nat → PSt)} {mM' : Mem} {nM' : MemL} {k' : Nat} {r' rM : Int32} {cd : Int32} (hk : k' = 0 ∧ cd = 0 ∨ k' = 1 ∧ cd = 1 ∨ k' = 2 ∧ cd = 2) (hE8 : f_X8_setCatch x1 x2 imT imdP indP imdS imdB imdO imdR imdA indA imP inP imS imB imO imR imA inA imH ihs = some (k', r', mB', mH', hs')) (hE9 : f_X9_setCatch x1 x2 imM inM = some (rM, mM', nM')) (hth : mM' 8 0 = cd) (hr : k' = 0 → r' = rM) (kk : ∀ (o' : Nat → Int64) (H1 : Heap) (locs1 : List Loc) (ls1 : Array Slot), va_P D vwCl ([(bo, .inl (cy 1, 1, .inr (.inl o')))] ++ ((W_All cy aI aT adP adS adB adO adR adA aP aS aB aO aR aA aH ah imT imdP indP imdS imdB imdO imdR imdA indA imP inP imS mB' imO imR imA inA mH' hs') ++ (W_M cy aM mM' nM'))) H1 → va_D (LA s) ([(bo, .inl (cy 1, 1, .inr (.inl o')))] ++ ((W_All cy aI aT adP adS adB adO adR adA aP aS aB aO aR aA aH ah imT imdP indP imdS imdB imdO imdR imdA indA imP inP imS mB' imO imR imA inA mH' hs') ++ (W_M cy aM mM' nM'))) → va_S (LA s) s.heap H1 locs1 → lv_has ls1 9 [(0, .ref b), (1, .ref (aI 0)), (2, .ref (aM 0)), (3, .ref bo), (4, .int i4)] → W p l e room_1 s m #[Value.ref b] below meth c H1 locs1 (cells + 16) (slots + 96) Q (F0 m 2094 ls1 [])) : W p l e room_1 s m #[Value.ref b] below meth c H locs cells slots Q (F0 m 712 ls []) := by
  have hA : ∀ q : Nat, s.heap.size ≤ q → LA s q := fun _ h => h
  have hbA : ¬ LA s b := Nat.not_le.mpr hbl
  have hC : CallFix p m c code 9 s #[Value.ref b] lwA RL := ⟨hx, hb, hml, hown, hts⟩
  obtain ⟨o', ho⟩ : ∃ o', (if k' = 0 then vp_updL o 0 (r'.toInt64) else o) = o' := ⟨_, rfl⟩
  refine lv_aload_n hx hb dL_law_712 rfl (lv_at hl 1 rfl) ?_
  refine lv_aload_n hx hb dL_law_713 rfl (lv_at hl 0 rfl) ?_
  refine lv_iload hx hb dL_law_714 (lv_at hl 4 rfl) ?_
  refine lv_iconst (v := 1) hx hb dL_law_716 (by decide) ?_
  refine lv_iadd hx hb dL_law_717 ?_
  refine va_sld hx hb hXs hbl hbA hS v1 dL_law_718 ?_
  refine s_nm e1.symm ?_
  refine lv_aload_n hx hb dL_law_719 rfl (lv_at hl 0 rfl) ?_
  refine lv_iload hx hb dL_law_720 (lv_at hl 4 rfl) ?_
  refine lv_iconst (v := 2) hx hb dL_law_722 (by decide) ?_
  refine lv_iadd hx hb dL_law_723 ?_
  refine va_sld hx hb hXs hbl hbA hS v2 dL_law_724 ?_
  refine s_nm e2.symm ?_
  refine lv_aload_n hx hb dL_law_725 rfl (lv_at hl 3 rfl) ?_
  refine ki (X := []) (Y := (W_M cy aM imM inM)) (ws1 := [(bo, .inl (cy 1, 1, .inr (.inl o')))] ++ ((W_All cy aI aT adP adS adB adO adR adA aP aS aB aO aR aA aH ah imT imdP indP imdS imdB imdO imdR imdA indA imP inP imS mB' imO imR imA inA mH' hs') ++ (W_M cy aM imM inM))) (rH (X := []) (Y := (W_M cy aM imM inM)) (As := [.ref (aI 0), .int x1, .int x2, .ref bo]) (rest := []) hC (c_L_setCatch l hst D cy aI aT adP adS adB adO adR adA aP aS aB aO aR aA aH ah bo x1 x2 imT imdP indP imdS imdB imdO imdR imdA indA imP inP imS imB imO imR imA inA imH ihs o o' k' r' mB' mH' hs' cd hk ho hE8) (vx_cwSW (hh := [(0, 10, 13, 21), (0, 10, 17, 13)]) 4 hts gL_law_L_setCatch rfl rfl rfl (by decide +kernel) ⟨Nat.le_of_ble_eq_true rfl, Nat.le_of_ble_eq_true rfl⟩) hK hN hX hP hD hS hA (asm1 _ _ _) rfl hl.1 rfl (lv_room (Nat.le_of_ble_eq_true rfl)) dL_law_726 ⟨by show cells + 1 ≤ 601024; omega, by show slots + 6 ≤ 7293034; omega⟩) hP hD hS hA (asm1 _ _ _) (fst_L _ _ (fst_All cy aI aT adP adS adB adO adR adA aP aS aB aO aR aA aH ah imT imdP indP imdS imdB imdO imdR imdA indA imP inP imS imB imO imR imA inA imH ihs imT imdP indP imdS imdB imdO imdR imdA indA imP inP imS mB' imO imR imA inA mH' hs')) (asm1 _ _ _).symm (fun H locs hP hD hS => ?_)
  refine lv_istore (lv' := [(5, .int cd), (0, .ref b), (1, .ref (aI 0)), (2, .ref (aM 0)), (3, .ref bo), (4, .int i4)]) hx hb dL_law_729 hl (by decide) rfl (fun ls hl => ?_)
  refine lv_aload_n hx hb dL_law_731 rfl (lv_at hl 3 rfl) ?_
  refine lv_aload_n hx hb dL_law_732 rfl (lv_at hl 1 rfl) ?_
  refine lv_iload hx hb dL_law_733 (lv_at hl 5 rfl) ?_
  refine lv_iconst (v := 1) hx hb dL_law_735 (by decide) ?_
  refine lv_iadd hx hb dL_law_736 ?_
  refine va_sld hx hb hXs hbl hbA hS v1 dL_law_737 ?_
  refine s_nm e1.symm ?_
  refine lv_aload_n hx hb dL_law_738 rfl (lv_at hl 1 rfl) ?_
  refine lv_iload hx hb dL_law_739 (lv_at hl 5 rfl) ?_
  refine lv_iconst (v := 2) hx hb dL_law_741 (by decide) ?_
  refine lv_iadd hx hb dL_law_742 ?_
  refine va_sld hx hb hXs hbl hbA hS v2 dL_law_743 ?_
  refine s_nm e2.symm ?_
  refine ki (X := ([(bo, .inl (cy 1, 1, .inr (.inl o')))] ++ (W_All cy aI aT adP adS adB adO adR adA aP aS aB aO aR aA aH ah imT imdP indP imdS imdB imdO imdR imdA indA imP inP imS mB' imO imR imA inA mH' hs'))) (Y := []) (ws1 := [(bo, .inl (cy 1, 1, .inr (.inl o')))] ++ ((W_All cy aI aT adP adS adB adO adR adA aP aS aB aO aR aA aH ah imT imdP indP imdS imdB imdO imdR imdA indA imP inP imS mB' imO imR imA inA mH' hs') ++ (W_M cy aM mM' nM'))) (rV (X := ([(bo, .inl (cy 1, 1, .inr (.inl o')))] ++ (W_All cy aI aT adP adS adB adO adR adA aP aS aB aO aR aA aH ah imT imdP indP imdS imdB imdO imdR imdA indA imP inP imS mB' imO imR imA inA mH' hs'))) (Y := []) (As := [.int x1, .int x2]) (rest := []) hC (c_X9_setCatch l D cy aM x1 x2 imM inM rM mM' nM' hE9) (cwV 2 hts gL_law_X9_setCatch rfl rfl rfl cd_X9_setCatch ⟨Nat.le_of_ble_eq_true rfl, Nat.le_of_ble_eq_true rfl⟩) hK hN hP hD hS hA (asm2 _ _ _) 0 9 rfl rfl rfl hl.1 rfl (lv_room (Nat.le_of_ble_eq_true rfl)) dL_law_744 ⟨by show _ ≤ 601024; omega, by show _ ≤ 7293034; omega⟩) hP hD hS hA (asm2 _ _ _) rfl (asm2 _ _ _).symm (fun H locs hP hD hS => ?_)
  refine lv_istore (lv' := [(6, .int rM), (5, .int cd), (0, .ref b), (1, .ref (aI 0)), (2, .ref (aM 0)), (3, .ref bo), (4, .int i4)]) hx hb dL_law_747 hl (by decide) rfl (fun ls hl => ?_)
  refine lv_aload_n hx hb dL_law_749 rfl (lv_at hl 4 rfl) ?_
  refine ki (X := ([(bo, .inl (cy 1, 1, .inr (.inl o')))] ++ (W_All cy aI aT adP adS adB adO adR adA aP aS aB aO aR aA aH ah imT imdP indP imdS imdB imdO imdR imdA indA imP inP imS mB' imO imR imA inA mH' hs'))) (Y := []) (ws1 := [(bo, .inl (cy 1, 1, .inr (.inl o')))] ++ ((W_All cy aI aT adP adS adB adO adR adA aP aS aB aO aR aA aH ah imT imdP indP imdS imdB imdO imdR imdA indA imP inP imS mB' imO imR imA inA mH' hs') ++ (W_M cy aM mM' nM'))) (rV (X := ([(bo, .inl (cy 1, 1, .inr (.inl o')))] ++ (W_All cy aI aT adP adS adB adO adR adA aP aS aB aO aR aA aH ah imT imdP indP imdS imdB imdO imdR imdA indA imP inP imS mB' imO imR imA inA mH' hs'))) (Y := []) (As := []) (rest := []) hC (c_X9_thrown l D cy aM mM' nM' (mM' 8 0) rfl) (cwV 0 hts gL_law_X9_thrown rfl rfl rfl cd_X9_thrown ⟨Nat.le_of_ble_eq_true rfl, Nat.le_of_ble_eq_true rfl⟩) hK hN hP hD hS hA (asm2 _ _ _) 0 9 rfl rfl rfl hl.1 rfl (lv_room (Nat.le_of_ble_eq_true rfl)) dL_law_750 ⟨by show _ ≤ 601024; omega, by show _ ≤ 7293034; omega⟩) hP hD hS hA (asm2 _ _ _) rfl (asm2 _ _ _).symm (fun H locs hP hD hS => ?_)
  refine s_nm hth.symm ?_
  refine lv_iload hx hb dL_law_753 (lv_at hl 1 rfl) ?_
  refine lv_icmp_eq (tgt := 760) hx hb dL_law_755 (by decide) (fun _ => ?_) (fun q9 => absurd rfl q9)
  refine lv_iload hx hb dL_law_760 (lv_at hl 1 rfl) ?_
  refine lv_if_ne (tgt := 777) hx hb dL_law_762 (by decide) (fun q9 => ?_) (fun q9 => ?_)
  · refine lv_goto (tgt := 2094) hx hb dL_law_777 (by decide) ?_
    refine W.widen (k := cells + 16) (n := slots + 96) (by omega) (by omega) ?_
    exact kk o' _ _ _ hP hD hS (lv_sub hl [2, 3, 4, 5, 6] rfl)
  · have hk0 : k' = 0 := by rcases hk with ⟨a, c9⟩ | ⟨a, c9⟩ | ⟨a, c9⟩ <;> first | exact a | exact absurd (q9.symm.trans c9) (by decide)
    have ho0 : o' 0 = rM.toInt64 := by rw [← ho, if_pos hk0, hr hk0]; rfl
    refine lv_aload_n hx hb dL_law_765 rfl (lv_at hl 5 rfl) ?_
    refine lv_iconst (v := 0) hx hb dL_law_766 (by decide) ?_
    refine va_lald hx hb hK hP 0 1 rfl rfl (show ¬ ((0 : Int32) < 0 ∨ 1 ≤ (0 : Int32).toNatClampNeg) by decide) dL_law_767 ?_
    refine s_nmL (y := rM.toInt64) (by rw [← ho0]; rfl) ?_
    refine lv_iload hx hb dL_law_768 (lv_at hl 0 rfl) ?_
    refine lv_i2l hx hb dL_law_770 rfl ?_
    refine W.lcmp hx hb dL_law_771 ?_
    rw [lg_cmp_self]
    refine lv_if_eq (tgt := 777) hx hb dL_law_772 (by decide) (fun _ => ?_) (fun q9 => absurd rfl q9)
    refine lv_goto (tgt := 2094) hx hb dL_law_777 (by decide) ?_
    refine W.widen (k := cells + 16) (n := slots + 96) (by omega) (by omega) ?_
    exact kk o' _ _ _ hP hD hS (lv_sub hl [2, 3, 4, 5, 6] rfl)
set_option maxHeartbeats 40000000 in
set_option maxRecDepth 100000 in
theorem lc_order {p : Program} {l : Launch} (hst : l.stackTraces = false) {e : Env} {s : State} {m : MethodId} {below : List Frame} {meth : Method} {c : Code} {Q : State → Prop} {D : va_G} {cy : Nat → Nat} {b L : Nat} {xs : Nat → Int32} (hx : p.tables.exec = Jvm.exec) (hb : c.code = code) (hml : c.maxLocals = 9) (hown : s.vm.findClass RL = some m.cls) (hts : ∀ w ∈ lwA, w.before #[Value.ref b] s = true) (hXs : va_X b L xs s s.heap) (hbl : b < s.heap.size) (hK : va_K D vwCl (tyl cy) s) (hN : cG cy (LA s) s s.heap) (hX : cX s) {aI aT adP adS adB adO adR adA aP aS aB aO aR aA aH aM : Nat → Nat} {ah : Nat → Nat → Nat → Nat} {bo : Nat} {imT : Mem} {imdP : Mem} {indP : MemL} {imdS : Mem} {imdB : Mem} {imdO : Mem} {imdR : Mem} {imdA : Mem} {indA : MemL} {imP : Mem} {inP : MemL} {imS : Mem} {imB : Mem} {imO : Mem} {imR : Mem} {imA : Mem} {inA : MemL} {imH : Mem} {ihs : (Nat → PSt)} {imM : Mem} {inM : MemL} {o : Nat → Int64} {H : Heap} {locs : List Loc} {ls : Array Slot} {cells slots : Nat} {i4 : Int32} (hP : va_P D vwCl ([(bo, .inl (cy 1, 1, .inr (.inl o)))] ++ ((W_All cy aI aT adP adS adB adO adR adA aP aS aB aO aR aA aH ah imT imdP indP imdS imdB imdO imdR imdA indA imP inP imS imB imO imR imA inA imH ihs) ++ (W_M cy aM imM inM))) H) (hD : va_D (LA s) ([(bo, .inl (cy 1, 1, .inr (.inl o)))] ++ ((W_All cy aI aT adP adS adB adO adR adA aP aS aB aO aR aA aH ah imT imdP indP imdS imdB imdO imdR imdA indA imP inP imS imB imO imR imA inA imH ihs) ++ (W_M cy aM imM inM)))) (hS : va_S (LA s) s.heap H locs) (hl : lv_has ls 9 [(0, .ref b), (1, .ref (aI 0)), (2, .ref (aM 0)), (3, .ref bo), (4, .int i4)]) (hcl : cells + 16 ≤ 601024) (hsl : slots + 96 ≤ 7293034) {x1 : Int32} (e1 : xs (i4 + 1).toNatClampNeg = x1) (v1 : vp_in (i4 + 1) L) {x2 : Int32} (e2 : xs (i4 + 2).toNatClampNeg = x2) (v2 : vp_in (i4 + 2) L) {x3 : Int32} (e3 : xs (i4 + 3).toNatClampNeg = x3) (v3 : vp_in (i4 + 3) L) {x4 y4 : Int32} (hu : y4 = 0 ∧ x4 = 0 ∨ ¬ y4 = 0 ∧ x4 = 1) (e4 : xs (i4 + 4).toNatClampNeg = y4) (v4 : vp_in (i4 + 4) L) {mO' : Mem} {mH' : Mem} {hs' : (Nat → PSt)} {mM' : Mem} {nM' : MemL} {k' : Nat} {r' rM : Int32} {cd : Int32} (hk : k' = 0 ∧ cd = 0 ∨ k' = 1 ∧ cd = 1 ∨ k' = 2 ∧ cd = 2 ∨ k' = 3 ∧ cd = 3) (hE8 : f_X8_order x1 x2 x3 x4 imT imdP indP imdS imdB imdO imdR imdA indA imP inP imS imB imO imR imA inA imH ihs = some (k', r', mO', mH', hs')) (hE9 : f_X9_order x1 x2 x3 x4 imM inM = some (rM, mM', nM')) (hth : mM' 8 0 = cd) (hr : k' = 0 → r' = rM) (kk : ∀ (o' : Nat → Int64) (H1 : Heap) (locs1 : List Loc) (ls1 : Array Slot), va_P D vwCl ([(bo, .inl (cy 1, 1, .inr (.inl o')))] ++ ((W_All cy aI aT adP adS adB adO adR adA aP aS aB aO aR aA aH ah imT imdP indP imdS imdB imdO imdR imdA indA imP inP imS imB mO' imR imA inA mH' hs') ++ (W_M cy aM mM' nM'))) H1 → va_D (LA s) ([(bo, .inl (cy 1, 1, .inr (.inl o')))] ++ ((W_All cy aI aT adP adS adB adO adR adA aP aS aB aO aR aA aH ah imT imdP indP imdS imdB imdO imdR imdA indA imP inP imS imB mO' imR imA inA mH' hs') ++ (W_M cy aM mM' nM'))) → va_S (LA s) s.heap H1 locs1 → lv_has ls1 9 [(0, .ref b), (1, .ref (aI 0)), (2, .ref (aM 0)), (3, .ref bo), (4, .int i4)] → W p l e room_1 s m #[Value.ref b] below meth c H1 locs1 (cells + 16) (slots + 96) Q (F0 m 2094 ls1 [])) : W p l e room_1 s m #[Value.ref b] below meth c H locs cells slots Q (F0 m 780 ls []) := by
  have hA : ∀ q : Nat, s.heap.size ≤ q → LA s q := fun _ h => h
  have hbA : ¬ LA s b := Nat.not_le.mpr hbl
  have hC : CallFix p m c code 9 s #[Value.ref b] lwA RL := ⟨hx, hb, hml, hown, hts⟩
  obtain ⟨o', ho⟩ : ∃ o', (if k' = 0 then vp_updL o 0 (r'.toInt64) else o) = o' := ⟨_, rfl⟩
  rcases hu with ⟨hy0, hx0⟩ | ⟨hy0, hx0⟩
  · subst hx0
    refine lv_aload_n hx hb dL_law_780 rfl (lv_at hl 1 rfl) ?_
    refine lv_aload_n hx hb dL_law_781 rfl (lv_at hl 0 rfl) ?_
    refine lv_iload hx hb dL_law_782 (lv_at hl 4 rfl) ?_
    refine lv_iconst (v := 1) hx hb dL_law_784 (by decide) ?_
    refine lv_iadd hx hb dL_law_785 ?_
    refine va_sld hx hb hXs hbl hbA hS v1 dL_law_786 ?_
    refine s_nm e1.symm ?_
    refine lv_aload_n hx hb dL_law_787 rfl (lv_at hl 0 rfl) ?_
    refine lv_iload hx hb dL_law_788 (lv_at hl 4 rfl) ?_
    refine lv_iconst (v := 2) hx hb dL_law_790 (by decide) ?_
    refine lv_iadd hx hb dL_law_791 ?_
    refine va_sld hx hb hXs hbl hbA hS v2 dL_law_792 ?_
    refine s_nm e2.symm ?_
    refine lv_aload_n hx hb dL_law_793 rfl (lv_at hl 0 rfl) ?_
    refine lv_iload hx hb dL_law_794 (lv_at hl 4 rfl) ?_
    refine lv_iconst (v := 3) hx hb dL_law_796 (by decide) ?_
    refine lv_iadd hx hb dL_law_797 ?_
    refine va_sld hx hb hXs hbl hbA hS v3 dL_law_798 ?_
    refine s_nm e3.symm ?_
    refine lv_aload_n hx hb dL_law_799 rfl (lv_at hl 0 rfl) ?_
    refine lv_iload hx hb dL_law_800 (lv_at hl 4 rfl) ?_
    refine lv_iconst (v := 4) hx hb dL_law_802 (by decide) ?_
    refine lv_iadd hx hb dL_law_803 ?_
    refine va_sld hx hb hXs hbl hbA hS v4 dL_law_804 ?_
    refine s_nm e4.symm ?_
    refine lv_if_eq (tgt := 812) hx hb dL_law_805 (by decide) (fun _ => ?_) (fun q9 => absurd hy0 q9)
    refine lv_iconst (v := 0) hx hb dL_law_812 (by decide) ?_
    refine lv_aload_n hx hb dL_law_813 rfl (lv_at hl 3 rfl) ?_
    refine ki (X := []) (Y := (W_M cy aM imM inM)) (ws1 := [(bo, .inl (cy 1, 1, .inr (.inl o')))] ++ ((W_All cy aI aT adP adS adB adO adR adA aP aS aB aO aR aA aH ah imT imdP indP imdS imdB imdO imdR imdA indA imP inP imS imB mO' imR imA inA mH' hs') ++ (W_M cy aM imM inM))) (rH (X := []) (Y := (W_M cy aM imM inM)) (As := [.ref (aI 0), .int x1, .int x2, .int x3, .int (0 : Int32), .ref bo]) (rest := []) hC (c_L_order l hst D cy aI aT adP adS adB adO adR adA aP aS aB aO aR aA aH ah bo x1 x2 x3 (0 : Int32) imT imdP indP imdS imdB imdO imdR imdA indA imP inP imS imB imO imR imA inA imH ihs o o' k' r' mO' mH' hs' cd hk ho hE8) (vx_cwSW (hh := [(0, 14, 17, 21), (0, 14, 21, 13), (0, 14, 25, 15)]) 6 hts gL_law_L_order rfl rfl rfl (by decide +kernel) ⟨Nat.le_of_ble_eq_true rfl, Nat.le_of_ble_eq_true rfl⟩) hK hN hX hP hD hS hA (asm1 _ _ _) rfl hl.1 rfl (lv_room (Nat.le_of_ble_eq_true rfl)) dL_law_814 ⟨by show cells + 1 ≤ 601024; omega, by show slots + 6 ≤ 7293034; omega⟩) hP hD hS hA (asm1 _ _ _) (fst_L _ _ (fst_All cy aI aT adP adS adB adO adR adA aP aS aB aO aR aA aH ah imT imdP indP imdS imdB imdO imdR imdA indA imP inP imS imB imO imR imA inA imH ihs imT imdP indP imdS imdB imdO imdR imdA indA imP inP imS imB mO' imR imA inA mH' hs')) (asm1 _ _ _).symm (fun H locs hP hD hS => ?_)
    refine lv_istore (lv' := [(5, .int cd), (0, .ref b), (1, .ref (aI 0)), (2, .ref (aM 0)), (3, .ref bo), (4, .int i4)]) hx hb dL_law_817 hl (by decide) rfl (fun ls hl => ?_)
    refine lv_aload_n hx hb dL_law_819 rfl (lv_at hl 3 rfl) ?_
    refine lv_aload_n hx hb dL_law_820 rfl (lv_at hl 1 rfl) ?_
    refine lv_iload hx hb dL_law_821 (lv_at hl 5 rfl) ?_
    refine lv_iconst (v := 1) hx hb dL_law_823 (by decide) ?_
    refine lv_iadd hx hb dL_law_824 ?_
    refine va_sld hx hb hXs hbl hbA hS v1 dL_law_825 ?_
    refine s_nm e1.symm ?_
    refine lv_aload_n hx hb dL_law_826 rfl (lv_at hl 1 rfl) ?_
    refine lv_iload hx hb dL_law_827 (lv_at hl 5 rfl) ?_
    refine lv_iconst (v := 2) hx hb dL_law_829 (by decide) ?_
    refine lv_iadd hx hb dL_law_830 ?_
    refine va_sld hx hb hXs hbl hbA hS v2 dL_law_831 ?_
    refine s_nm e2.symm ?_
    refine lv_aload_n hx hb dL_law_832 rfl (lv_at hl 1 rfl) ?_
    refine lv_iload hx hb dL_law_833 (lv_at hl 5 rfl) ?_
    refine lv_iconst (v := 3) hx hb dL_law_835 (by decide) ?_
    refine lv_iadd hx hb dL_law_836 ?_
    refine va_sld hx hb hXs hbl hbA hS v3 dL_law_837 ?_
    refine s_nm e3.symm ?_
    refine lv_aload_n hx hb dL_law_838 rfl (lv_at hl 1 rfl) ?_
    refine lv_iload hx hb dL_law_839 (lv_at hl 5 rfl) ?_
    refine lv_iconst (v := 4) hx hb dL_law_841 (by decide) ?_
    refine lv_iadd hx hb dL_law_842 ?_
    refine va_sld hx hb hXs hbl hbA hS v4 dL_law_843 ?_
    refine s_nm e4.symm ?_
    refine lv_if_eq (tgt := 851) hx hb dL_law_844 (by decide) (fun _ => ?_) (fun q9 => absurd hy0 q9)
    refine lv_iconst (v := 0) hx hb dL_law_851 (by decide) ?_
    refine ki (X := ([(bo, .inl (cy 1, 1, .inr (.inl o')))] ++ (W_All cy aI aT adP adS adB adO adR adA aP aS aB aO aR aA aH ah imT imdP indP imdS imdB imdO imdR imdA indA imP inP imS imB mO' imR imA inA mH' hs'))) (Y := []) (ws1 := [(bo, .inl (cy 1, 1, .inr (.inl o')))] ++ ((W_All cy aI aT adP adS adB adO adR adA aP aS aB aO aR aA aH ah imT imdP indP imdS imdB imdO imdR imdA indA imP inP imS imB mO' imR imA inA mH' hs') ++ (W_M cy aM mM' nM'))) (rV (X := ([(bo, .inl (cy 1, 1, .inr (.inl o')))] ++ (W_All cy aI aT adP adS adB adO adR adA aP aS aB aO aR aA aH ah imT imdP indP imdS imdB imdO imdR imdA indA imP inP imS imB mO' imR imA inA mH' hs'))) (Y := []) (As := [.int x1, .int x2, .int x3, .int (0 : Int32)]) (rest := []) hC (c_X9_order l D cy aM x1 x2 x3 (0 : Int32) imM inM rM mM' nM' hE9) (cwV 4 hts gL_law_X9_order rfl rfl rfl cd_X9_order ⟨Nat.le_of_ble_eq_true rfl, Nat.le_of_ble_eq_true rfl⟩) hK hN hP hD hS hA (asm2 _ _ _) 0 9 rfl rfl rfl hl.1 rfl (lv_room (Nat.le_of_ble_eq_true rfl)) dL_law_852 ⟨by show _ ≤ 601024; omega, by show _ ≤ 7293034; omega⟩) hP hD hS hA (asm2 _ _ _) rfl (asm2 _ _ _).symm (fun H locs hP hD hS => ?_)
    refine lv_istore (lv' := [(6, .int rM), (5, .int cd), (0, .ref b), (1, .ref (aI 0)), (2, .ref (aM 0)), (3, .ref bo), (4, .int i4)]) hx hb dL_law_855 hl (by decide) rfl (fun ls hl => ?_)
    refine lv_aload_n hx hb dL_law_857 rfl (lv_at hl 4 rfl) ?_
    refine ki (X := ([(bo, .inl (cy 1, 1, .inr (.inl o')))] ++ (W_All cy aI aT adP adS adB adO adR adA aP aS aB aO aR aA aH ah imT imdP indP imdS imdB imdO imdR imdA indA imP inP imS imB mO' imR imA inA mH' hs'))) (Y := []) (ws1 := [(bo, .inl (cy 1, 1, .inr (.inl o')))] ++ ((W_All cy aI aT adP adS adB adO adR adA aP aS aB aO aR aA aH ah imT imdP indP imdS imdB imdO imdR imdA indA imP inP imS imB mO' imR imA inA mH' hs') ++ (W_M cy aM mM' nM'))) (rV (X := ([(bo, .inl (cy 1, 1, .inr (.inl o')))] ++ (W_All cy aI aT adP adS adB adO adR adA aP aS aB aO aR aA aH ah imT imdP indP imdS imdB imdO imdR imdA indA imP inP imS imB mO' imR imA inA mH' hs'))) (Y := []) (As := []) (rest := []) hC (c_X9_thrown l D cy aM mM' nM' (mM' 8 0) rfl) (cwV 0 hts gL_law_X9_thrown rfl rfl rfl cd_X9_thrown ⟨Nat.le_of_ble_eq_true rfl, Nat.le_of_ble_eq_true rfl⟩) hK hN hP hD hS hA (asm2 _ _ _) 0 9 rfl rfl rfl hl.1 rfl (lv_room (Nat.le_of_ble_eq_true rfl)) dL_law_858 ⟨by show _ ≤ 601024; omega, by show _ ≤ 7293034; omega⟩) hP hD hS hA (asm2 _ _ _) rfl (asm2 _ _ _).symm (fun H locs hP hD hS => ?_)
    refine s_nm hth.symm ?_
    refine lv_iload hx hb dL_law_861 (lv_at hl 1 rfl) ?_
    refine lv_icmp_eq (tgt := 868) hx hb dL_law_863 (by decide) (fun _ => ?_) (fun q9 => absurd rfl q9)
    refine lv_iload hx hb dL_law_868 (lv_at hl 1 rfl) ?_
    refine lv_if_ne (tgt := 885) hx hb dL_law_870 (by decide) (fun q9 => ?_) (fun q9 => ?_)
    · refine lv_goto (tgt := 2094) hx hb dL_law_885 (by decide) ?_
      refine W.widen (k := cells + 16) (n := slots + 96) (by omega) (by omega) ?_
      exact kk o' _ _ _ hP hD hS (lv_sub hl [2, 3, 4, 5, 6] rfl)
    · have hk0 : k' = 0 := by rcases hk with ⟨a, c9⟩ | ⟨a, c9⟩ | ⟨a, c9⟩ | ⟨a, c9⟩ <;> first | exact a | exact absurd (q9.symm.trans c9) (by decide)
      have ho0 : o' 0 = rM.toInt64 := by rw [← ho, if_pos hk0, hr hk0]; rfl
      refine lv_aload_n hx hb dL_law_873 rfl (lv_at hl 5 rfl) ?_
      refine lv_iconst (v := 0) hx hb dL_law_874 (by decide) ?_
      refine va_lald hx hb hK hP 0 1 rfl rfl (show ¬ ((0 : Int32) < 0 ∨ 1 ≤ (0 : Int32).toNatClampNeg) by decide) dL_law_875 ?_
      refine s_nmL (y := rM.toInt64) (by rw [← ho0]; rfl) ?_
      refine lv_iload hx hb dL_law_876 (lv_at hl 0 rfl) ?_
      refine lv_i2l hx hb dL_law_878 rfl ?_
      refine W.lcmp hx hb dL_law_879 ?_
      rw [lg_cmp_self]
      refine lv_if_eq (tgt := 885) hx hb dL_law_880 (by decide) (fun _ => ?_) (fun q9 => absurd rfl q9)
      refine lv_goto (tgt := 2094) hx hb dL_law_885 (by decide) ?_
      refine W.widen (k := cells + 16) (n := slots + 96) (by omega) (by omega) ?_
      exact kk o' _ _ _ hP hD hS (lv_sub hl [2, 3, 4, 5, 6] rfl)
  · subst hx0
    refine lv_aload_n hx hb dL_law_780 rfl (lv_at hl 1 rfl) ?_
    refine lv_aload_n hx hb dL_law_781 rfl (lv_at hl 0 rfl) ?_
    refine lv_iload hx hb dL_law_782 (lv_at hl 4 rfl) ?_
    refine lv_iconst (v := 1) hx hb dL_law_784 (by decide) ?_
    refine lv_iadd hx hb dL_law_785 ?_
    refine va_sld hx hb hXs hbl hbA hS v1 dL_law_786 ?_
    refine s_nm e1.symm ?_
    refine lv_aload_n hx hb dL_law_787 rfl (lv_at hl 0 rfl) ?_
    refine lv_iload hx hb dL_law_788 (lv_at hl 4 rfl) ?_
    refine lv_iconst (v := 2) hx hb dL_law_790 (by decide) ?_
    refine lv_iadd hx hb dL_law_791 ?_
    refine va_sld hx hb hXs hbl hbA hS v2 dL_law_792 ?_
    refine s_nm e2.symm ?_
    refine lv_aload_n hx hb dL_law_793 rfl (lv_at hl 0 rfl) ?_
    refine lv_iload hx hb dL_law_794 (lv_at hl 4 rfl) ?_
    refine lv_iconst (v := 3) hx hb dL_law_796 (by decide) ?_
    refine lv_iadd hx hb dL_law_797 ?_
    refine va_sld hx hb hXs hbl hbA hS v3 dL_law_798 ?_
    refine s_nm e3.symm ?_
    refine lv_aload_n hx hb dL_law_799 rfl (lv_at hl 0 rfl) ?_
    refine lv_iload hx hb dL_law_800 (lv_at hl 4 rfl) ?_
    refine lv_iconst (v := 4) hx hb dL_law_802 (by decide) ?_
    refine lv_iadd hx hb dL_law_803 ?_
    refine va_sld hx hb hXs hbl hbA hS v4 dL_law_804 ?_
    refine s_nm e4.symm ?_
    refine lv_if_eq (tgt := 812) hx hb dL_law_805 (by decide) (fun q9 => absurd q9 hy0) (fun _ => ?_)
    refine lv_iconst (v := 1) hx hb dL_law_808 (by decide) ?_
    refine lv_goto (tgt := 813) hx hb dL_law_809 (by decide) ?_
    refine lv_aload_n hx hb dL_law_813 rfl (lv_at hl 3 rfl) ?_
    refine ki (X := []) (Y := (W_M cy aM imM inM)) (ws1 := [(bo, .inl (cy 1, 1, .inr (.inl o')))] ++ ((W_All cy aI aT adP adS adB adO adR adA aP aS aB aO aR aA aH ah imT imdP indP imdS imdB imdO imdR imdA indA imP inP imS imB mO' imR imA inA mH' hs') ++ (W_M cy aM imM inM))) (rH (X := []) (Y := (W_M cy aM imM inM)) (As := [.ref (aI 0), .int x1, .int x2, .int x3, .int (1 : Int32), .ref bo]) (rest := []) hC (c_L_order l hst D cy aI aT adP adS adB adO adR adA aP aS aB aO aR aA aH ah bo x1 x2 x3 (1 : Int32) imT imdP indP imdS imdB imdO imdR imdA indA imP inP imS imB imO imR imA inA imH ihs o o' k' r' mO' mH' hs' cd hk ho hE8) (vx_cwSW (hh := [(0, 14, 17, 21), (0, 14, 21, 13), (0, 14, 25, 15)]) 6 hts gL_law_L_order rfl rfl rfl (by decide +kernel) ⟨Nat.le_of_ble_eq_true rfl, Nat.le_of_ble_eq_true rfl⟩) hK hN hX hP hD hS hA (asm1 _ _ _) rfl hl.1 rfl (lv_room (Nat.le_of_ble_eq_true rfl)) dL_law_814 ⟨by show cells + 1 ≤ 601024; omega, by show slots + 6 ≤ 7293034; omega⟩) hP hD hS hA (asm1 _ _ _) (fst_L _ _ (fst_All cy aI aT adP adS adB adO adR adA aP aS aB aO aR aA aH ah imT imdP indP imdS imdB imdO imdR imdA indA imP inP imS imB imO imR imA inA imH ihs imT imdP indP imdS imdB imdO imdR imdA indA imP inP imS imB mO' imR imA inA mH' hs')) (asm1 _ _ _).symm (fun H locs hP hD hS => ?_)
    refine lv_istore (lv' := [(5, .int cd), (0, .ref b), (1, .ref (aI 0)), (2, .ref (aM 0)), (3, .ref bo), (4, .int i4)]) hx hb dL_law_817 hl (by decide) rfl (fun ls hl => ?_)
    refine lv_aload_n hx hb dL_law_819 rfl (lv_at hl 3 rfl) ?_
    refine lv_aload_n hx hb dL_law_820 rfl (lv_at hl 1 rfl) ?_
    refine lv_iload hx hb dL_law_821 (lv_at hl 5 rfl) ?_
    refine lv_iconst (v := 1) hx hb dL_law_823 (by decide) ?_
    refine lv_iadd hx hb dL_law_824 ?_
    refine va_sld hx hb hXs hbl hbA hS v1 dL_law_825 ?_
    refine s_nm e1.symm ?_
    refine lv_aload_n hx hb dL_law_826 rfl (lv_at hl 1 rfl) ?_
    refine lv_iload hx hb dL_law_827 (lv_at hl 5 rfl) ?_
    refine lv_iconst (v := 2) hx hb dL_law_829 (by decide) ?_
    refine lv_iadd hx hb dL_law_830 ?_
    refine va_sld hx hb hXs hbl hbA hS v2 dL_law_831 ?_
    refine s_nm e2.symm ?_
    refine lv_aload_n hx hb dL_law_832 rfl (lv_at hl 1 rfl) ?_
    refine lv_iload hx hb dL_law_833 (lv_at hl 5 rfl) ?_
    refine lv_iconst (v := 3) hx hb dL_law_835 (by decide) ?_
    refine lv_iadd hx hb dL_law_836 ?_
    refine va_sld hx hb hXs hbl hbA hS v3 dL_law_837 ?_
    refine s_nm e3.symm ?_
    refine lv_aload_n hx hb dL_law_838 rfl (lv_at hl 1 rfl) ?_
    refine lv_iload hx hb dL_law_839 (lv_at hl 5 rfl) ?_
    refine lv_iconst (v := 4) hx hb dL_law_841 (by decide) ?_
    refine lv_iadd hx hb dL_law_842 ?_
    refine va_sld hx hb hXs hbl hbA hS v4 dL_law_843 ?_
    refine s_nm e4.symm ?_
    refine lv_if_eq (tgt := 851) hx hb dL_law_844 (by decide) (fun q9 => absurd q9 hy0) (fun _ => ?_)
    refine lv_iconst (v := 1) hx hb dL_law_847 (by decide) ?_
    refine lv_goto (tgt := 852) hx hb dL_law_848 (by decide) ?_
    refine ki (X := ([(bo, .inl (cy 1, 1, .inr (.inl o')))] ++ (W_All cy aI aT adP adS adB adO adR adA aP aS aB aO aR aA aH ah imT imdP indP imdS imdB imdO imdR imdA indA imP inP imS imB mO' imR imA inA mH' hs'))) (Y := []) (ws1 := [(bo, .inl (cy 1, 1, .inr (.inl o')))] ++ ((W_All cy aI aT adP adS adB adO adR adA aP aS aB aO aR aA aH ah imT imdP indP imdS imdB imdO imdR imdA indA imP inP imS imB mO' imR imA inA mH' hs') ++ (W_M cy aM mM' nM'))) (rV (X := ([(bo, .inl (cy 1, 1, .inr (.inl o')))] ++ (W_All cy aI aT adP adS adB adO adR adA aP aS aB aO aR aA aH ah imT imdP indP imdS imdB imdO imdR imdA indA imP inP imS imB mO' imR imA inA mH' hs'))) (Y := []) (As := [.int x1, .int x2, .int x3, .int (1 : Int32)]) (rest := []) hC (c_X9_order l D cy aM x1 x2 x3 (1 : Int32) imM inM rM mM' nM' hE9) (cwV 4 hts gL_law_X9_order rfl rfl rfl cd_X9_order ⟨Nat.le_of_ble_eq_true rfl, Nat.le_of_ble_eq_true rfl⟩) hK hN hP hD hS hA (asm2 _ _ _) 0 9 rfl rfl rfl hl.1 rfl (lv_room (Nat.le_of_ble_eq_true rfl)) dL_law_852 ⟨by show _ ≤ 601024; omega, by show _ ≤ 7293034; omega⟩) hP hD hS hA (asm2 _ _ _) rfl (asm2 _ _ _).symm (fun H locs hP hD hS => ?_)
    refine lv_istore (lv' := [(6, .int rM), (5, .int cd), (0, .ref b), (1, .ref (aI 0)), (2, .ref (aM 0)), (3, .ref bo), (4, .int i4)]) hx hb dL_law_855 hl (by decide) rfl (fun ls hl => ?_)
    refine lv_aload_n hx hb dL_law_857 rfl (lv_at hl 4 rfl) ?_
    refine ki (X := ([(bo, .inl (cy 1, 1, .inr (.inl o')))] ++ (W_All cy aI aT adP adS adB adO adR adA aP aS aB aO aR aA aH ah imT imdP indP imdS imdB imdO imdR imdA indA imP inP imS imB mO' imR imA inA mH' hs'))) (Y := []) (ws1 := [(bo, .inl (cy 1, 1, .inr (.inl o')))] ++ ((W_All cy aI aT adP adS adB adO adR adA aP aS aB aO aR aA aH ah imT imdP indP imdS imdB imdO imdR imdA indA imP inP imS imB mO' imR imA inA mH' hs') ++ (W_M cy aM mM' nM'))) (rV (X := ([(bo, .inl (cy 1, 1, .inr (.inl o')))] ++ (W_All cy aI aT adP adS adB adO adR adA aP aS aB aO aR aA aH ah imT imdP indP imdS imdB imdO imdR imdA indA imP inP imS imB mO' imR imA inA mH' hs'))) (Y := []) (As := []) (rest := []) hC (c_X9_thrown l D cy aM mM' nM' (mM' 8 0) rfl) (cwV 0 hts gL_law_X9_thrown rfl rfl rfl cd_X9_thrown ⟨Nat.le_of_ble_eq_true rfl, Nat.le_of_ble_eq_true rfl⟩) hK hN hP hD hS hA (asm2 _ _ _) 0 9 rfl rfl rfl hl.1 rfl (lv_room (Nat.le_of_ble_eq_true rfl)) dL_law_858 ⟨by show _ ≤ 601024; omega, by show _ ≤ 7293034; omega⟩) hP hD hS hA (asm2 _ _ _) rfl (asm2 _ _ _).symm (fun H locs hP hD hS => ?_)
    refine s_nm hth.symm ?_
    refine lv_iload hx hb dL_law_861 (lv_at hl 1 rfl) ?_
    refine lv_icmp_eq (tgt := 868) hx hb dL_law_863 (by decide) (fun _ => ?_) (fun q9 => absurd rfl q9)
    refine lv_iload hx hb dL_law_868 (lv_at hl 1 rfl) ?_
    refine lv_if_ne (tgt := 885) hx hb dL_law_870 (by decide) (fun q9 => ?_) (fun q9 => ?_)
    · refine lv_goto (tgt := 2094) hx hb dL_law_885 (by decide) ?_
      refine W.widen (k := cells + 16) (n := slots + 96) (by omega) (by omega) ?_
      exact kk o' _ _ _ hP hD hS (lv_sub hl [2, 3, 4, 5, 6] rfl)
    · have hk0 : k' = 0 := by rcases hk with ⟨a, c9⟩ | ⟨a, c9⟩ | ⟨a, c9⟩ | ⟨a, c9⟩ <;> first | exact a | exact absurd (q9.symm.trans c9) (by decide)
      have ho0 : o' 0 = rM.toInt64 := by rw [← ho, if_pos hk0, hr hk0]; rfl
      refine lv_aload_n hx hb dL_law_873 rfl (lv_at hl 5 rfl) ?_
      refine lv_iconst (v := 0) hx hb dL_law_874 (by decide) ?_
      refine va_lald hx hb hK hP 0 1 rfl rfl (show ¬ ((0 : Int32) < 0 ∨ 1 ≤ (0 : Int32).toNatClampNeg) by decide) dL_law_875 ?_
      refine s_nmL (y := rM.toInt64) (by rw [← ho0]; rfl) ?_
      refine lv_iload hx hb dL_law_876 (lv_at hl 0 rfl) ?_
      refine lv_i2l hx hb dL_law_878 rfl ?_
      refine W.lcmp hx hb dL_law_879 ?_
      rw [lg_cmp_self]
      refine lv_if_eq (tgt := 885) hx hb dL_law_880 (by decide) (fun _ => ?_) (fun q9 => absurd rfl q9)
      refine lv_goto (tgt := 2094) hx hb dL_law_885 (by decide) ?_
      refine W.widen (k := cells + 16) (n := slots + 96) (by omega) (by omega) ?_
      exact kk o' _ _ _ hP hD hS (lv_sub hl [2, 3, 4, 5, 6] rfl)
set_option maxHeartbeats 40000000 in
set_option maxRecDepth 100000 in
theorem lc_cancel {p : Program} {l : Launch} (hst : l.stackTraces = false) {e : Env} {s : State} {m : MethodId} {below : List Frame} {meth : Method} {c : Code} {Q : State → Prop} {D : va_G} {cy : Nat → Nat} {b L : Nat} {xs : Nat → Int32} (hx : p.tables.exec = Jvm.exec) (hb : c.code = code) (hml : c.maxLocals = 9) (hown : s.vm.findClass RL = some m.cls) (hts : ∀ w ∈ lwA, w.before #[Value.ref b] s = true) (hXs : va_X b L xs s s.heap) (hbl : b < s.heap.size) (hK : va_K D vwCl (tyl cy) s) (hN : cG cy (LA s) s s.heap) (hX : cX s) {aI aT adP adS adB adO adR adA aP aS aB aO aR aA aH aM : Nat → Nat} {ah : Nat → Nat → Nat → Nat} {bo : Nat} {imT : Mem} {imdP : Mem} {indP : MemL} {imdS : Mem} {imdB : Mem} {imdO : Mem} {imdR : Mem} {imdA : Mem} {indA : MemL} {imP : Mem} {inP : MemL} {imS : Mem} {imB : Mem} {imO : Mem} {imR : Mem} {imA : Mem} {inA : MemL} {imH : Mem} {ihs : (Nat → PSt)} {imM : Mem} {inM : MemL} {o : Nat → Int64} {H : Heap} {locs : List Loc} {ls : Array Slot} {cells slots : Nat} {i4 : Int32} (hP : va_P D vwCl ([(bo, .inl (cy 1, 1, .inr (.inl o)))] ++ ((W_All cy aI aT adP adS adB adO adR adA aP aS aB aO aR aA aH ah imT imdP indP imdS imdB imdO imdR imdA indA imP inP imS imB imO imR imA inA imH ihs) ++ (W_M cy aM imM inM))) H) (hD : va_D (LA s) ([(bo, .inl (cy 1, 1, .inr (.inl o)))] ++ ((W_All cy aI aT adP adS adB adO adR adA aP aS aB aO aR aA aH ah imT imdP indP imdS imdB imdO imdR imdA indA imP inP imS imB imO imR imA inA imH ihs) ++ (W_M cy aM imM inM)))) (hS : va_S (LA s) s.heap H locs) (hl : lv_has ls 9 [(0, .ref b), (1, .ref (aI 0)), (2, .ref (aM 0)), (3, .ref bo), (4, .int i4)]) (hcl : cells + 16 ≤ 601024) (hsl : slots + 96 ≤ 7293034) {x1 : Int32} (e1 : xs (i4 + 1).toNatClampNeg = x1) (v1 : vp_in (i4 + 1) L) {mO' : Mem} {mH' : Mem} {hs' : (Nat → PSt)} {mM' : Mem} {nM' : MemL} {k' : Nat} {r' rM : Int32} {cd : Int32} (hk : k' = 0 ∧ cd = 0 ∨ k' = 1 ∧ cd = 1 ∨ k' = 3 ∧ cd = 2) (hE8 : f_X8_cancel x1 imT imdP indP imdS imdB imdO imdR imdA indA imP inP imS imB imO imR imA inA imH ihs = some (k', r', mO', mH', hs')) (hE9 : f_X9_cancel x1 imM inM = some (rM, mM', nM')) (hth : mM' 8 0 = cd) (hr : k' = 0 → r' = rM) (kk : ∀ (o' : Nat → Int64) (H1 : Heap) (locs1 : List Loc) (ls1 : Array Slot), va_P D vwCl ([(bo, .inl (cy 1, 1, .inr (.inl o')))] ++ ((W_All cy aI aT adP adS adB adO adR adA aP aS aB aO aR aA aH ah imT imdP indP imdS imdB imdO imdR imdA indA imP inP imS imB mO' imR imA inA mH' hs') ++ (W_M cy aM mM' nM'))) H1 → va_D (LA s) ([(bo, .inl (cy 1, 1, .inr (.inl o')))] ++ ((W_All cy aI aT adP adS adB adO adR adA aP aS aB aO aR aA aH ah imT imdP indP imdS imdB imdO imdR imdA indA imP inP imS imB mO' imR imA inA mH' hs') ++ (W_M cy aM mM' nM'))) → va_S (LA s) s.heap H1 locs1 → lv_has ls1 9 [(0, .ref b), (1, .ref (aI 0)), (2, .ref (aM 0)), (3, .ref bo), (4, .int i4)] → W p l e room_1 s m #[Value.ref b] below meth c H1 locs1 (cells + 16) (slots + 96) Q (F0 m 2094 ls1 [])) : W p l e room_1 s m #[Value.ref b] below meth c H locs cells slots Q (F0 m 888 ls []) := by
  have hA : ∀ q : Nat, s.heap.size ≤ q → LA s q := fun _ h => h
  have hbA : ¬ LA s b := Nat.not_le.mpr hbl
  have hC : CallFix p m c code 9 s #[Value.ref b] lwA RL := ⟨hx, hb, hml, hown, hts⟩
  obtain ⟨o', ho⟩ : ∃ o', (if k' = 0 then vp_updL o 0 (r'.toInt64) else o) = o' := ⟨_, rfl⟩
  refine lv_aload_n hx hb dL_law_888 rfl (lv_at hl 1 rfl) ?_
  refine lv_aload_n hx hb dL_law_889 rfl (lv_at hl 0 rfl) ?_
  refine lv_iload hx hb dL_law_890 (lv_at hl 4 rfl) ?_
  refine lv_iconst (v := 1) hx hb dL_law_892 (by decide) ?_
  refine lv_iadd hx hb dL_law_893 ?_
  refine va_sld hx hb hXs hbl hbA hS v1 dL_law_894 ?_
  refine s_nm e1.symm ?_
  refine lv_aload_n hx hb dL_law_895 rfl (lv_at hl 3 rfl) ?_
  refine ki (X := []) (Y := (W_M cy aM imM inM)) (ws1 := [(bo, .inl (cy 1, 1, .inr (.inl o')))] ++ ((W_All cy aI aT adP adS adB adO adR adA aP aS aB aO aR aA aH ah imT imdP indP imdS imdB imdO imdR imdA indA imP inP imS imB mO' imR imA inA mH' hs') ++ (W_M cy aM imM inM))) (rH (X := []) (Y := (W_M cy aM imM inM)) (As := [.ref (aI 0), .int x1, .ref bo]) (rest := []) hC (c_L_cancel l hst D cy aI aT adP adS adB adO adR adA aP aS aB aO aR aA aH ah bo x1 imT imdP indP imdS imdB imdO imdR imdA indA imP inP imS imB imO imR imA inA imH ihs o o' k' r' mO' mH' hs' cd hk ho hE8) (vx_cwSW (hh := [(0, 9, 12, 21), (0, 9, 15, 15)]) 3 hts gL_law_L_cancel rfl rfl rfl (by decide +kernel) ⟨Nat.le_of_ble_eq_true rfl, Nat.le_of_ble_eq_true rfl⟩) hK hN hX hP hD hS hA (asm1 _ _ _) rfl hl.1 rfl (lv_room (Nat.le_of_ble_eq_true rfl)) dL_law_896 ⟨by show cells + 2 ≤ 601024; omega, by show slots + 12 ≤ 7293034; omega⟩) hP hD hS hA (asm1 _ _ _) (fst_L _ _ (fst_All cy aI aT adP adS adB adO adR adA aP aS aB aO aR aA aH ah imT imdP indP imdS imdB imdO imdR imdA indA imP inP imS imB imO imR imA inA imH ihs imT imdP indP imdS imdB imdO imdR imdA indA imP inP imS imB mO' imR imA inA mH' hs')) (asm1 _ _ _).symm (fun H locs hP hD hS => ?_)
  refine lv_istore (lv' := [(5, .int cd), (0, .ref b), (1, .ref (aI 0)), (2, .ref (aM 0)), (3, .ref bo), (4, .int i4)]) hx hb dL_law_899 hl (by decide) rfl (fun ls hl => ?_)
  refine lv_aload_n hx hb dL_law_901 rfl (lv_at hl 3 rfl) ?_
  refine lv_aload_n hx hb dL_law_902 rfl (lv_at hl 1 rfl) ?_
  refine lv_iload hx hb dL_law_903 (lv_at hl 5 rfl) ?_
  refine lv_iconst (v := 1) hx hb dL_law_905 (by decide) ?_
  refine lv_iadd hx hb dL_law_906 ?_
  refine va_sld hx hb hXs hbl hbA hS v1 dL_law_907 ?_
  refine s_nm e1.symm ?_
  refine ki (X := ([(bo, .inl (cy 1, 1, .inr (.inl o')))] ++ (W_All cy aI aT adP adS adB adO adR adA aP aS aB aO aR aA aH ah imT imdP indP imdS imdB imdO imdR imdA indA imP inP imS imB mO' imR imA inA mH' hs'))) (Y := []) (ws1 := [(bo, .inl (cy 1, 1, .inr (.inl o')))] ++ ((W_All cy aI aT adP adS adB adO adR adA aP aS aB aO aR aA aH ah imT imdP indP imdS imdB imdO imdR imdA indA imP inP imS imB mO' imR imA inA mH' hs') ++ (W_M cy aM mM' nM'))) (rV (X := ([(bo, .inl (cy 1, 1, .inr (.inl o')))] ++ (W_All cy aI aT adP adS adB adO adR adA aP aS aB aO aR aA aH ah imT imdP indP imdS imdB imdO imdR imdA indA imP inP imS imB mO' imR imA inA mH' hs'))) (Y := []) (As := [.int x1]) (rest := []) hC (c_X9_cancel l D cy aM x1 imM inM rM mM' nM' hE9) (cwV 1 hts gL_law_X9_cancel rfl rfl rfl cd_X9_cancel ⟨Nat.le_of_ble_eq_true rfl, Nat.le_of_ble_eq_true rfl⟩) hK hN hP hD hS hA (asm2 _ _ _) 0 9 rfl rfl rfl hl.1 rfl (lv_room (Nat.le_of_ble_eq_true rfl)) dL_law_908 ⟨by show _ ≤ 601024; omega, by show _ ≤ 7293034; omega⟩) hP hD hS hA (asm2 _ _ _) rfl (asm2 _ _ _).symm (fun H locs hP hD hS => ?_)
  refine lv_istore (lv' := [(6, .int rM), (5, .int cd), (0, .ref b), (1, .ref (aI 0)), (2, .ref (aM 0)), (3, .ref bo), (4, .int i4)]) hx hb dL_law_911 hl (by decide) rfl (fun ls hl => ?_)
  refine lv_aload_n hx hb dL_law_913 rfl (lv_at hl 4 rfl) ?_
  refine ki (X := ([(bo, .inl (cy 1, 1, .inr (.inl o')))] ++ (W_All cy aI aT adP adS adB adO adR adA aP aS aB aO aR aA aH ah imT imdP indP imdS imdB imdO imdR imdA indA imP inP imS imB mO' imR imA inA mH' hs'))) (Y := []) (ws1 := [(bo, .inl (cy 1, 1, .inr (.inl o')))] ++ ((W_All cy aI aT adP adS adB adO adR adA aP aS aB aO aR aA aH ah imT imdP indP imdS imdB imdO imdR imdA indA imP inP imS imB mO' imR imA inA mH' hs') ++ (W_M cy aM mM' nM'))) (rV (X := ([(bo, .inl (cy 1, 1, .inr (.inl o')))] ++ (W_All cy aI aT adP adS adB adO adR adA aP aS aB aO aR aA aH ah imT imdP indP imdS imdB imdO imdR imdA indA imP inP imS imB mO' imR imA inA mH' hs'))) (Y := []) (As := []) (rest := []) hC (c_X9_thrown l D cy aM mM' nM' (mM' 8 0) rfl) (cwV 0 hts gL_law_X9_thrown rfl rfl rfl cd_X9_thrown ⟨Nat.le_of_ble_eq_true rfl, Nat.le_of_ble_eq_true rfl⟩) hK hN hP hD hS hA (asm2 _ _ _) 0 9 rfl rfl rfl hl.1 rfl (lv_room (Nat.le_of_ble_eq_true rfl)) dL_law_914 ⟨by show _ ≤ 601024; omega, by show _ ≤ 7293034; omega⟩) hP hD hS hA (asm2 _ _ _) rfl (asm2 _ _ _).symm (fun H locs hP hD hS => ?_)
  refine s_nm hth.symm ?_
  refine lv_iload hx hb dL_law_917 (lv_at hl 1 rfl) ?_
  refine lv_icmp_eq (tgt := 924) hx hb dL_law_919 (by decide) (fun _ => ?_) (fun q9 => absurd rfl q9)
  refine lv_iload hx hb dL_law_924 (lv_at hl 1 rfl) ?_
  refine lv_if_ne (tgt := 941) hx hb dL_law_926 (by decide) (fun q9 => ?_) (fun q9 => ?_)
  · refine lv_goto (tgt := 2094) hx hb dL_law_941 (by decide) ?_
    refine W.widen (k := cells + 16) (n := slots + 96) (by omega) (by omega) ?_
    exact kk o' _ _ _ hP hD hS (lv_sub hl [2, 3, 4, 5, 6] rfl)
  · have hk0 : k' = 0 := by rcases hk with ⟨a, c9⟩ | ⟨a, c9⟩ | ⟨a, c9⟩ <;> first | exact a | exact absurd (q9.symm.trans c9) (by decide)
    have ho0 : o' 0 = rM.toInt64 := by rw [← ho, if_pos hk0, hr hk0]; rfl
    refine lv_aload_n hx hb dL_law_929 rfl (lv_at hl 5 rfl) ?_
    refine lv_iconst (v := 0) hx hb dL_law_930 (by decide) ?_
    refine va_lald hx hb hK hP 0 1 rfl rfl (show ¬ ((0 : Int32) < 0 ∨ 1 ≤ (0 : Int32).toNatClampNeg) by decide) dL_law_931 ?_
    refine s_nmL (y := rM.toInt64) (by rw [← ho0]; rfl) ?_
    refine lv_iload hx hb dL_law_932 (lv_at hl 0 rfl) ?_
    refine lv_i2l hx hb dL_law_934 rfl ?_
    refine W.lcmp hx hb dL_law_935 ?_
    rw [lg_cmp_self]
    refine lv_if_eq (tgt := 941) hx hb dL_law_936 (by decide) (fun _ => ?_) (fun q9 => absurd rfl q9)
    refine lv_goto (tgt := 2094) hx hb dL_law_941 (by decide) ?_
    refine W.widen (k := cells + 16) (n := slots + 96) (by omega) (by omega) ?_
    exact kk o' _ _ _ hP hD hS (lv_sub hl [2, 3, 4, 5, 6] rfl)
set_option maxHeartbeats 40000000 in
set_option maxRecDepth 100000 in
theorem lc_pay {p : Program} {l : Launch} (hst : l.stackTraces = false) {e : Env} {s : State} {m : MethodId} {below : List Frame} {meth : Method} {c : Code} {Q : State → Prop} {D : va_G} {cy : Nat → Nat} {b L : Nat} {xs : Nat → Int32} (hx : p.tables.exec = Jvm.exec) (hb : c.code = code) (hml : c.maxLocals = 9) (hown : s.vm.findClass RL = some m.cls) (hts : ∀ w ∈ lwA, w.before #[Value.ref b] s = true) (hXs : va_X b L xs s s.heap) (hbl : b < s.heap.size) (hK : va_K D vwCl (tyl cy) s) (hN : cG cy (LA s) s s.heap) (hX : cX s) {aI aT adP adS adB adO adR adA aP aS aB aO aR aA aH aM : Nat → Nat} {ah : Nat → Nat → Nat → Nat} {bo : Nat} {imT : Mem} {imdP : Mem} {indP : MemL} {imdS : Mem} {imdB : Mem} {imdO : Mem} {imdR : Mem} {imdA : Mem} {indA : MemL} {imP : Mem} {inP : MemL} {imS : Mem} {imB : Mem} {imO : Mem} {imR : Mem} {imA : Mem} {inA : MemL} {imH : Mem} {ihs : (Nat → PSt)} {imM : Mem} {inM : MemL} {o : Nat → Int64} {H : Heap} {locs : List Loc} {ls : Array Slot} {cells slots : Nat} {i4 : Int32} (hP : va_P D vwCl ([(bo, .inl (cy 1, 1, .inr (.inl o)))] ++ ((W_All cy aI aT adP adS adB adO adR adA aP aS aB aO aR aA aH ah imT imdP indP imdS imdB imdO imdR imdA indA imP inP imS imB imO imR imA inA imH ihs) ++ (W_M cy aM imM inM))) H) (hD : va_D (LA s) ([(bo, .inl (cy 1, 1, .inr (.inl o)))] ++ ((W_All cy aI aT adP adS adB adO adR adA aP aS aB aO aR aA aH ah imT imdP indP imdS imdB imdO imdR imdA indA imP inP imS imB imO imR imA inA imH ihs) ++ (W_M cy aM imM inM)))) (hS : va_S (LA s) s.heap H locs) (hl : lv_has ls 9 [(0, .ref b), (1, .ref (aI 0)), (2, .ref (aM 0)), (3, .ref bo), (4, .int i4)]) (hcl : cells + 16 ≤ 601024) (hsl : slots + 96 ≤ 7293034) {x1 : Int32} (e1 : xs (i4 + 1).toNatClampNeg = x1) (v1 : vp_in (i4 + 1) L) {x2 : Int32} (e2 : xs (i4 + 2).toNatClampNeg = x2) (v2 : vp_in (i4 + 2) L) {nP' : MemL} {mB' : Mem} {mH' : Mem} {hs' : (Nat → PSt)} {mM' : Mem} {nM' : MemL} {k' : Nat} {r' rM : Int32} {cd : Int32} (hk : k' = 0 ∧ cd = 0 ∨ k' = 1 ∧ cd = 1 ∨ k' = 2 ∧ cd = 2 ∨ k' = 3 ∧ cd = 3) (hE8 : f_X8_pay x1 x2 imT imdP indP imdS imdB imdO imdR imdA indA imP inP imS imB imO imR imA inA imH ihs = some (k', r', nP', mB', mH', hs')) (hE9 : f_X9_pay x1 x2 imM inM = some (rM, mM', nM')) (hth : mM' 8 0 = cd) (hr : k' = 0 → r' = rM) (kk : ∀ (o' : Nat → Int64) (H1 : Heap) (locs1 : List Loc) (ls1 : Array Slot), va_P D vwCl ([(bo, .inl (cy 1, 1, .inr (.inl o')))] ++ ((W_All cy aI aT adP adS adB adO adR adA aP aS aB aO aR aA aH ah imT imdP indP imdS imdB imdO imdR imdA indA imP nP' imS mB' imO imR imA inA mH' hs') ++ (W_M cy aM mM' nM'))) H1 → va_D (LA s) ([(bo, .inl (cy 1, 1, .inr (.inl o')))] ++ ((W_All cy aI aT adP adS adB adO adR adA aP aS aB aO aR aA aH ah imT imdP indP imdS imdB imdO imdR imdA indA imP nP' imS mB' imO imR imA inA mH' hs') ++ (W_M cy aM mM' nM'))) → va_S (LA s) s.heap H1 locs1 → lv_has ls1 9 [(0, .ref b), (1, .ref (aI 0)), (2, .ref (aM 0)), (3, .ref bo), (4, .int i4)] → W p l e room_1 s m #[Value.ref b] below meth c H1 locs1 (cells + 16) (slots + 96) Q (F0 m 2094 ls1 [])) : W p l e room_1 s m #[Value.ref b] below meth c H locs cells slots Q (F0 m 944 ls []) := by
  have hA : ∀ q : Nat, s.heap.size ≤ q → LA s q := fun _ h => h
  have hbA : ¬ LA s b := Nat.not_le.mpr hbl
  have hC : CallFix p m c code 9 s #[Value.ref b] lwA RL := ⟨hx, hb, hml, hown, hts⟩
  obtain ⟨o', ho⟩ : ∃ o', (if k' = 0 then vp_updL o 0 (r'.toInt64) else o) = o' := ⟨_, rfl⟩
  refine lv_aload_n hx hb dL_law_944 rfl (lv_at hl 1 rfl) ?_
  refine lv_aload_n hx hb dL_law_945 rfl (lv_at hl 0 rfl) ?_
  refine lv_iload hx hb dL_law_946 (lv_at hl 4 rfl) ?_
  refine lv_iconst (v := 1) hx hb dL_law_948 (by decide) ?_
  refine lv_iadd hx hb dL_law_949 ?_
  refine va_sld hx hb hXs hbl hbA hS v1 dL_law_950 ?_
  refine s_nm e1.symm ?_
  refine lv_aload_n hx hb dL_law_951 rfl (lv_at hl 0 rfl) ?_
  refine lv_iload hx hb dL_law_952 (lv_at hl 4 rfl) ?_
  refine lv_iconst (v := 2) hx hb dL_law_954 (by decide) ?_
  refine lv_iadd hx hb dL_law_955 ?_
  refine va_sld hx hb hXs hbl hbA hS v2 dL_law_956 ?_
  refine s_nm e2.symm ?_
  refine lv_aload_n hx hb dL_law_957 rfl (lv_at hl 3 rfl) ?_
  refine ki (X := []) (Y := (W_M cy aM imM inM)) (ws1 := [(bo, .inl (cy 1, 1, .inr (.inl o')))] ++ ((W_All cy aI aT adP adS adB adO adR adA aP aS aB aO aR aA aH ah imT imdP indP imdS imdB imdO imdR imdA indA imP nP' imS mB' imO imR imA inA mH' hs') ++ (W_M cy aM imM inM))) (rH (X := []) (Y := (W_M cy aM imM inM)) (As := [.ref (aI 0), .int x1, .int x2, .ref bo]) (rest := []) hC (c_L_pay l hst D cy aI aT adP adS adB adO adR adA aP aS aB aO aR aA aH ah bo x1 x2 imT imdP indP imdS imdB imdO imdR imdA indA imP inP imS imB imO imR imA inA imH ihs o o' k' r' nP' mB' mH' hs' cd hk ho hE8) (vx_cwSW (hh := [(0, 10, 13, 21), (0, 10, 17, 13), (0, 10, 21, 15)]) 4 hts gL_law_L_pay rfl rfl rfl (by decide +kernel) ⟨Nat.le_of_ble_eq_true rfl, Nat.le_of_ble_eq_true rfl⟩) hK hN hX hP hD hS hA (asm1 _ _ _) rfl hl.1 rfl (lv_room (Nat.le_of_ble_eq_true rfl)) dL_law_958 ⟨by show cells + 1 ≤ 601024; omega, by show slots + 6 ≤ 7293034; omega⟩) hP hD hS hA (asm1 _ _ _) (fst_L _ _ (fst_All cy aI aT adP adS adB adO adR adA aP aS aB aO aR aA aH ah imT imdP indP imdS imdB imdO imdR imdA indA imP inP imS imB imO imR imA inA imH ihs imT imdP indP imdS imdB imdO imdR imdA indA imP nP' imS mB' imO imR imA inA mH' hs')) (asm1 _ _ _).symm (fun H locs hP hD hS => ?_)
  refine lv_istore (lv' := [(5, .int cd), (0, .ref b), (1, .ref (aI 0)), (2, .ref (aM 0)), (3, .ref bo), (4, .int i4)]) hx hb dL_law_961 hl (by decide) rfl (fun ls hl => ?_)
  refine lv_aload_n hx hb dL_law_963 rfl (lv_at hl 3 rfl) ?_
  refine lv_aload_n hx hb dL_law_964 rfl (lv_at hl 1 rfl) ?_
  refine lv_iload hx hb dL_law_965 (lv_at hl 5 rfl) ?_
  refine lv_iconst (v := 1) hx hb dL_law_967 (by decide) ?_
  refine lv_iadd hx hb dL_law_968 ?_
  refine va_sld hx hb hXs hbl hbA hS v1 dL_law_969 ?_
  refine s_nm e1.symm ?_
  refine lv_aload_n hx hb dL_law_970 rfl (lv_at hl 1 rfl) ?_
  refine lv_iload hx hb dL_law_971 (lv_at hl 5 rfl) ?_
  refine lv_iconst (v := 2) hx hb dL_law_973 (by decide) ?_
  refine lv_iadd hx hb dL_law_974 ?_
  refine va_sld hx hb hXs hbl hbA hS v2 dL_law_975 ?_
  refine s_nm e2.symm ?_
  refine ki (X := ([(bo, .inl (cy 1, 1, .inr (.inl o')))] ++ (W_All cy aI aT adP adS adB adO adR adA aP aS aB aO aR aA aH ah imT imdP indP imdS imdB imdO imdR imdA indA imP nP' imS mB' imO imR imA inA mH' hs'))) (Y := []) (ws1 := [(bo, .inl (cy 1, 1, .inr (.inl o')))] ++ ((W_All cy aI aT adP adS adB adO adR adA aP aS aB aO aR aA aH ah imT imdP indP imdS imdB imdO imdR imdA indA imP nP' imS mB' imO imR imA inA mH' hs') ++ (W_M cy aM mM' nM'))) (rV (X := ([(bo, .inl (cy 1, 1, .inr (.inl o')))] ++ (W_All cy aI aT adP adS adB adO adR adA aP aS aB aO aR aA aH ah imT imdP indP imdS imdB imdO imdR imdA indA imP nP' imS mB' imO imR imA inA mH' hs'))) (Y := []) (As := [.int x1, .int x2]) (rest := []) hC (c_X9_pay l D cy aM x1 x2 imM inM rM mM' nM' hE9) (cwV 2 hts gL_law_X9_pay rfl rfl rfl cd_X9_pay ⟨Nat.le_of_ble_eq_true rfl, Nat.le_of_ble_eq_true rfl⟩) hK hN hP hD hS hA (asm2 _ _ _) 0 9 rfl rfl rfl hl.1 rfl (lv_room (Nat.le_of_ble_eq_true rfl)) dL_law_976 ⟨by show _ ≤ 601024; omega, by show _ ≤ 7293034; omega⟩) hP hD hS hA (asm2 _ _ _) rfl (asm2 _ _ _).symm (fun H locs hP hD hS => ?_)
  refine lv_istore (lv' := [(6, .int rM), (5, .int cd), (0, .ref b), (1, .ref (aI 0)), (2, .ref (aM 0)), (3, .ref bo), (4, .int i4)]) hx hb dL_law_979 hl (by decide) rfl (fun ls hl => ?_)
  refine lv_aload_n hx hb dL_law_981 rfl (lv_at hl 4 rfl) ?_
  refine ki (X := ([(bo, .inl (cy 1, 1, .inr (.inl o')))] ++ (W_All cy aI aT adP adS adB adO adR adA aP aS aB aO aR aA aH ah imT imdP indP imdS imdB imdO imdR imdA indA imP nP' imS mB' imO imR imA inA mH' hs'))) (Y := []) (ws1 := [(bo, .inl (cy 1, 1, .inr (.inl o')))] ++ ((W_All cy aI aT adP adS adB adO adR adA aP aS aB aO aR aA aH ah imT imdP indP imdS imdB imdO imdR imdA indA imP nP' imS mB' imO imR imA inA mH' hs') ++ (W_M cy aM mM' nM'))) (rV (X := ([(bo, .inl (cy 1, 1, .inr (.inl o')))] ++ (W_All cy aI aT adP adS adB adO adR adA aP aS aB aO aR aA aH ah imT imdP indP imdS imdB imdO imdR imdA indA imP nP' imS mB' imO imR imA inA mH' hs'))) (Y := []) (As := []) (rest := []) hC (c_X9_thrown l D cy aM mM' nM' (mM' 8 0) rfl) (cwV 0 hts gL_law_X9_thrown rfl rfl rfl cd_X9_thrown ⟨Nat.le_of_ble_eq_true rfl, Nat.le_of_ble_eq_true rfl⟩) hK hN hP hD hS hA (asm2 _ _ _) 0 9 rfl rfl rfl hl.1 rfl (lv_room (Nat.le_of_ble_eq_true rfl)) dL_law_982 ⟨by show _ ≤ 601024; omega, by show _ ≤ 7293034; omega⟩) hP hD hS hA (asm2 _ _ _) rfl (asm2 _ _ _).symm (fun H locs hP hD hS => ?_)
  refine s_nm hth.symm ?_
  refine lv_iload hx hb dL_law_985 (lv_at hl 1 rfl) ?_
  refine lv_icmp_eq (tgt := 992) hx hb dL_law_987 (by decide) (fun _ => ?_) (fun q9 => absurd rfl q9)
  refine lv_iload hx hb dL_law_992 (lv_at hl 1 rfl) ?_
  refine lv_if_ne (tgt := 1009) hx hb dL_law_994 (by decide) (fun q9 => ?_) (fun q9 => ?_)
  · refine lv_goto (tgt := 2094) hx hb dL_law_1009 (by decide) ?_
    refine W.widen (k := cells + 16) (n := slots + 96) (by omega) (by omega) ?_
    exact kk o' _ _ _ hP hD hS (lv_sub hl [2, 3, 4, 5, 6] rfl)
  · have hk0 : k' = 0 := by rcases hk with ⟨a, c9⟩ | ⟨a, c9⟩ | ⟨a, c9⟩ | ⟨a, c9⟩ <;> first | exact a | exact absurd (q9.symm.trans c9) (by decide)
    have ho0 : o' 0 = rM.toInt64 := by rw [← ho, if_pos hk0, hr hk0]; rfl
    refine lv_aload_n hx hb dL_law_997 rfl (lv_at hl 5 rfl) ?_
    refine lv_iconst (v := 0) hx hb dL_law_998 (by decide) ?_
    refine va_lald hx hb hK hP 0 1 rfl rfl (show ¬ ((0 : Int32) < 0 ∨ 1 ≤ (0 : Int32).toNatClampNeg) by decide) dL_law_999 ?_
    refine s_nmL (y := rM.toInt64) (by rw [← ho0]; rfl) ?_
    refine lv_iload hx hb dL_law_1000 (lv_at hl 0 rfl) ?_
    refine lv_i2l hx hb dL_law_1002 rfl ?_
    refine W.lcmp hx hb dL_law_1003 ?_
    rw [lg_cmp_self]
    refine lv_if_eq (tgt := 1009) hx hb dL_law_1004 (by decide) (fun _ => ?_) (fun q9 => absurd rfl q9)
    refine lv_goto (tgt := 2094) hx hb dL_law_1009 (by decide) ?_
    refine W.widen (k := cells + 16) (n := slots + 96) (by omega) (by omega) ?_
    exact kk o' _ _ _ hP hD hS (lv_sub hl [2, 3, 4, 5, 6] rfl)
set_option maxHeartbeats 40000000 in
set_option maxRecDepth 100000 in
theorem lc_silo {p : Program} {l : Launch} (hst : l.stackTraces = false) {e : Env} {s : State} {m : MethodId} {below : List Frame} {meth : Method} {c : Code} {Q : State → Prop} {D : va_G} {cy : Nat → Nat} {b L : Nat} {xs : Nat → Int32} (hx : p.tables.exec = Jvm.exec) (hb : c.code = code) (hml : c.maxLocals = 9) (hown : s.vm.findClass RL = some m.cls) (hts : ∀ w ∈ lwA, w.before #[Value.ref b] s = true) (hXs : va_X b L xs s s.heap) (hbl : b < s.heap.size) (hK : va_K D vwCl (tyl cy) s) (hN : cG cy (LA s) s s.heap) (hX : cX s) {aI aT adP adS adB adO adR adA aP aS aB aO aR aA aH aM : Nat → Nat} {ah : Nat → Nat → Nat → Nat} {bo : Nat} {imT : Mem} {imdP : Mem} {indP : MemL} {imdS : Mem} {imdB : Mem} {imdO : Mem} {imdR : Mem} {imdA : Mem} {indA : MemL} {imP : Mem} {inP : MemL} {imS : Mem} {imB : Mem} {imO : Mem} {imR : Mem} {imA : Mem} {inA : MemL} {imH : Mem} {ihs : (Nat → PSt)} {imM : Mem} {inM : MemL} {o : Nat → Int64} {H : Heap} {locs : List Loc} {ls : Array Slot} {cells slots : Nat} {i4 : Int32} (hP : va_P D vwCl ([(bo, .inl (cy 1, 1, .inr (.inl o)))] ++ ((W_All cy aI aT adP adS adB adO adR adA aP aS aB aO aR aA aH ah imT imdP indP imdS imdB imdO imdR imdA indA imP inP imS imB imO imR imA inA imH ihs) ++ (W_M cy aM imM inM))) H) (hD : va_D (LA s) ([(bo, .inl (cy 1, 1, .inr (.inl o)))] ++ ((W_All cy aI aT adP adS adB adO adR adA aP aS aB aO aR aA aH ah imT imdP indP imdS imdB imdO imdR imdA indA imP inP imS imB imO imR imA inA imH ihs) ++ (W_M cy aM imM inM)))) (hS : va_S (LA s) s.heap H locs) (hl : lv_has ls 9 [(0, .ref b), (1, .ref (aI 0)), (2, .ref (aM 0)), (3, .ref bo), (4, .int i4)]) (hcl : cells + 16 ≤ 601024) (hsl : slots + 96 ≤ 7293034) {x1 : Int32} (e1 : xs (i4 + 1).toNatClampNeg = x1) (v1 : vp_in (i4 + 1) L) {x2 : Int32} (e2 : xs (i4 + 2).toNatClampNeg = x2) (v2 : vp_in (i4 + 2) L) {mM' : Mem} {k' : Nat} {r' rM : Int32} {cd : Int32} (hk : k' = 0 ∧ cd = 0 ∨ k' = 1 ∧ cd = 1 ∨ k' = 2 ∧ cd = 2) (hE8 : f_X8_silo x1 x2 imT imdP indP imdS imdB imdO imdR imdA indA imP inP imS imB imO imR imA inA imH ihs = some (k', r')) (hE9 : f_X9_silo x1 x2 imM inM = some (rM, mM')) (hth : mM' 8 0 = cd) (hr : k' = 0 → r' = rM) (kk : ∀ (o' : Nat → Int64) (H1 : Heap) (locs1 : List Loc) (ls1 : Array Slot), va_P D vwCl ([(bo, .inl (cy 1, 1, .inr (.inl o')))] ++ ((W_All cy aI aT adP adS adB adO adR adA aP aS aB aO aR aA aH ah imT imdP indP imdS imdB imdO imdR imdA indA imP inP imS imB imO imR imA inA imH ihs) ++ (W_M cy aM mM' inM))) H1 → va_D (LA s) ([(bo, .inl (cy 1, 1, .inr (.inl o')))] ++ ((W_All cy aI aT adP adS adB adO adR adA aP aS aB aO aR aA aH ah imT imdP indP imdS imdB imdO imdR imdA indA imP inP imS imB imO imR imA inA imH ihs) ++ (W_M cy aM mM' inM))) → va_S (LA s) s.heap H1 locs1 → lv_has ls1 9 [(0, .ref b), (1, .ref (aI 0)), (2, .ref (aM 0)), (3, .ref bo), (4, .int i4)] → W p l e room_1 s m #[Value.ref b] below meth c H1 locs1 (cells + 16) (slots + 96) Q (F0 m 2094 ls1 [])) : W p l e room_1 s m #[Value.ref b] below meth c H locs cells slots Q (F0 m 1012 ls []) := by
  have hA : ∀ q : Nat, s.heap.size ≤ q → LA s q := fun _ h => h
  have hbA : ¬ LA s b := Nat.not_le.mpr hbl
  have hC : CallFix p m c code 9 s #[Value.ref b] lwA RL := ⟨hx, hb, hml, hown, hts⟩
  obtain ⟨o', ho⟩ : ∃ o', (if k' = 0 then vp_updL o 0 (r'.toInt64) else o) = o' := ⟨_, rfl⟩
  refine lv_aload_n hx hb dL_law_1012 rfl (lv_at hl 1 rfl) ?_
  refine lv_aload_n hx hb dL_law_1013 rfl (lv_at hl 0 rfl) ?_
  refine lv_iload hx hb dL_law_1014 (lv_at hl 4 rfl) ?_
  refine lv_iconst (v := 1) hx hb dL_law_1016 (by decide) ?_
  refine lv_iadd hx hb dL_law_1017 ?_
  refine va_sld hx hb hXs hbl hbA hS v1 dL_law_1018 ?_
  refine s_nm e1.symm ?_
  refine lv_aload_n hx hb dL_law_1019 rfl (lv_at hl 0 rfl) ?_
  refine lv_iload hx hb dL_law_1020 (lv_at hl 4 rfl) ?_
  refine lv_iconst (v := 2) hx hb dL_law_1022 (by decide) ?_
  refine lv_iadd hx hb dL_law_1023 ?_
  refine va_sld hx hb hXs hbl hbA hS v2 dL_law_1024 ?_
  refine s_nm e2.symm ?_
  refine lv_aload_n hx hb dL_law_1025 rfl (lv_at hl 3 rfl) ?_
  refine ki (X := []) (Y := (W_M cy aM imM inM)) (ws1 := [(bo, .inl (cy 1, 1, .inr (.inl o')))] ++ ((W_All cy aI aT adP adS adB adO adR adA aP aS aB aO aR aA aH ah imT imdP indP imdS imdB imdO imdR imdA indA imP inP imS imB imO imR imA inA imH ihs) ++ (W_M cy aM imM inM))) (rH (X := []) (Y := (W_M cy aM imM inM)) (As := [.ref (aI 0), .int x1, .int x2, .ref bo]) (rest := []) hC (c_L_silo l hst D cy aI aT adP adS adB adO adR adA aP aS aB aO aR aA aH ah bo x1 x2 imT imdP indP imdS imdB imdO imdR imdA indA imP inP imS imB imO imR imA inA imH ihs o o' k' r' cd hk ho hE8) (vx_cwSW (hh := [(0, 10, 13, 21), (0, 10, 17, 13)]) 4 hts gL_law_L_silo rfl rfl rfl (by decide +kernel) ⟨Nat.le_of_ble_eq_true rfl, Nat.le_of_ble_eq_true rfl⟩) hK hN hX hP hD hS hA (asm1 _ _ _) rfl hl.1 rfl (lv_room (Nat.le_of_ble_eq_true rfl)) dL_law_1026 ⟨by show cells + 2 ≤ 601024; omega, by show slots + 12 ≤ 7293034; omega⟩) hP hD hS hA (asm1 _ _ _) (fst_L _ _ (fst_All cy aI aT adP adS adB adO adR adA aP aS aB aO aR aA aH ah imT imdP indP imdS imdB imdO imdR imdA indA imP inP imS imB imO imR imA inA imH ihs imT imdP indP imdS imdB imdO imdR imdA indA imP inP imS imB imO imR imA inA imH ihs)) (asm1 _ _ _).symm (fun H locs hP hD hS => ?_)
  refine lv_istore (lv' := [(5, .int cd), (0, .ref b), (1, .ref (aI 0)), (2, .ref (aM 0)), (3, .ref bo), (4, .int i4)]) hx hb dL_law_1029 hl (by decide) rfl (fun ls hl => ?_)
  refine lv_aload_n hx hb dL_law_1031 rfl (lv_at hl 3 rfl) ?_
  refine lv_aload_n hx hb dL_law_1032 rfl (lv_at hl 1 rfl) ?_
  refine lv_iload hx hb dL_law_1033 (lv_at hl 5 rfl) ?_
  refine lv_iconst (v := 1) hx hb dL_law_1035 (by decide) ?_
  refine lv_iadd hx hb dL_law_1036 ?_
  refine va_sld hx hb hXs hbl hbA hS v1 dL_law_1037 ?_
  refine s_nm e1.symm ?_
  refine lv_aload_n hx hb dL_law_1038 rfl (lv_at hl 1 rfl) ?_
  refine lv_iload hx hb dL_law_1039 (lv_at hl 5 rfl) ?_
  refine lv_iconst (v := 2) hx hb dL_law_1041 (by decide) ?_
  refine lv_iadd hx hb dL_law_1042 ?_
  refine va_sld hx hb hXs hbl hbA hS v2 dL_law_1043 ?_
  refine s_nm e2.symm ?_
  refine ki (X := ([(bo, .inl (cy 1, 1, .inr (.inl o')))] ++ (W_All cy aI aT adP adS adB adO adR adA aP aS aB aO aR aA aH ah imT imdP indP imdS imdB imdO imdR imdA indA imP inP imS imB imO imR imA inA imH ihs))) (Y := []) (ws1 := [(bo, .inl (cy 1, 1, .inr (.inl o')))] ++ ((W_All cy aI aT adP adS adB adO adR adA aP aS aB aO aR aA aH ah imT imdP indP imdS imdB imdO imdR imdA indA imP inP imS imB imO imR imA inA imH ihs) ++ (W_M cy aM mM' inM))) (rV (X := ([(bo, .inl (cy 1, 1, .inr (.inl o')))] ++ (W_All cy aI aT adP adS adB adO adR adA aP aS aB aO aR aA aH ah imT imdP indP imdS imdB imdO imdR imdA indA imP inP imS imB imO imR imA inA imH ihs))) (Y := []) (As := [.int x1, .int x2]) (rest := []) hC (c_X9_silo l D cy aM x1 x2 imM inM rM mM' hE9) (cwV 2 hts gL_law_X9_silo rfl rfl rfl cd_X9_silo ⟨Nat.le_of_ble_eq_true rfl, Nat.le_of_ble_eq_true rfl⟩) hK hN hP hD hS hA (asm2 _ _ _) 0 9 rfl rfl rfl hl.1 rfl (lv_room (Nat.le_of_ble_eq_true rfl)) dL_law_1044 ⟨by show _ ≤ 601024; omega, by show _ ≤ 7293034; omega⟩) hP hD hS hA (asm2 _ _ _) rfl (asm2 _ _ _).symm (fun H locs hP hD hS => ?_)
  refine lv_istore (lv' := [(6, .int rM), (5, .int cd), (0, .ref b), (1, .ref (aI 0)), (2, .ref (aM 0)), (3, .ref bo), (4, .int i4)]) hx hb dL_law_1047 hl (by decide) rfl (fun ls hl => ?_)
  refine lv_aload_n hx hb dL_law_1049 rfl (lv_at hl 4 rfl) ?_
  refine ki (X := ([(bo, .inl (cy 1, 1, .inr (.inl o')))] ++ (W_All cy aI aT adP adS adB adO adR adA aP aS aB aO aR aA aH ah imT imdP indP imdS imdB imdO imdR imdA indA imP inP imS imB imO imR imA inA imH ihs))) (Y := []) (ws1 := [(bo, .inl (cy 1, 1, .inr (.inl o')))] ++ ((W_All cy aI aT adP adS adB adO adR adA aP aS aB aO aR aA aH ah imT imdP indP imdS imdB imdO imdR imdA indA imP inP imS imB imO imR imA inA imH ihs) ++ (W_M cy aM mM' inM))) (rV (X := ([(bo, .inl (cy 1, 1, .inr (.inl o')))] ++ (W_All cy aI aT adP adS adB adO adR adA aP aS aB aO aR aA aH ah imT imdP indP imdS imdB imdO imdR imdA indA imP inP imS imB imO imR imA inA imH ihs))) (Y := []) (As := []) (rest := []) hC (c_X9_thrown l D cy aM mM' inM (mM' 8 0) rfl) (cwV 0 hts gL_law_X9_thrown rfl rfl rfl cd_X9_thrown ⟨Nat.le_of_ble_eq_true rfl, Nat.le_of_ble_eq_true rfl⟩) hK hN hP hD hS hA (asm2 _ _ _) 0 9 rfl rfl rfl hl.1 rfl (lv_room (Nat.le_of_ble_eq_true rfl)) dL_law_1050 ⟨by show _ ≤ 601024; omega, by show _ ≤ 7293034; omega⟩) hP hD hS hA (asm2 _ _ _) rfl (asm2 _ _ _).symm (fun H locs hP hD hS => ?_)
  refine s_nm hth.symm ?_
  refine lv_iload hx hb dL_law_1053 (lv_at hl 1 rfl) ?_
  refine lv_icmp_eq (tgt := 1060) hx hb dL_law_1055 (by decide) (fun _ => ?_) (fun q9 => absurd rfl q9)
  refine lv_iload hx hb dL_law_1060 (lv_at hl 1 rfl) ?_
  refine lv_if_ne (tgt := 1077) hx hb dL_law_1062 (by decide) (fun q9 => ?_) (fun q9 => ?_)
  · refine lv_goto (tgt := 2094) hx hb dL_law_1077 (by decide) ?_
    refine W.widen (k := cells + 16) (n := slots + 96) (by omega) (by omega) ?_
    exact kk o' _ _ _ hP hD hS (lv_sub hl [2, 3, 4, 5, 6] rfl)
  · have hk0 : k' = 0 := by rcases hk with ⟨a, c9⟩ | ⟨a, c9⟩ | ⟨a, c9⟩ <;> first | exact a | exact absurd (q9.symm.trans c9) (by decide)
    have ho0 : o' 0 = rM.toInt64 := by rw [← ho, if_pos hk0, hr hk0]; rfl
    refine lv_aload_n hx hb dL_law_1065 rfl (lv_at hl 5 rfl) ?_
    refine lv_iconst (v := 0) hx hb dL_law_1066 (by decide) ?_
    refine va_lald hx hb hK hP 0 1 rfl rfl (show ¬ ((0 : Int32) < 0 ∨ 1 ≤ (0 : Int32).toNatClampNeg) by decide) dL_law_1067 ?_
    refine s_nmL (y := rM.toInt64) (by rw [← ho0]; rfl) ?_
    refine lv_iload hx hb dL_law_1068 (lv_at hl 0 rfl) ?_
    refine lv_i2l hx hb dL_law_1070 rfl ?_
    refine W.lcmp hx hb dL_law_1071 ?_
    rw [lg_cmp_self]
    refine lv_if_eq (tgt := 1077) hx hb dL_law_1072 (by decide) (fun _ => ?_) (fun q9 => absurd rfl q9)
    refine lv_goto (tgt := 2094) hx hb dL_law_1077 (by decide) ?_
    refine W.widen (k := cells + 16) (n := slots + 96) (by omega) (by omega) ?_
    exact kk o' _ _ _ hP hD hS (lv_sub hl [2, 3, 4, 5, 6] rfl)
set_option maxHeartbeats 40000000 in
set_option maxRecDepth 100000 in
theorem lc_block {p : Program} {l : Launch} (hst : l.stackTraces = false) {e : Env} {s : State} {m : MethodId} {below : List Frame} {meth : Method} {c : Code} {Q : State → Prop} {D : va_G} {cy : Nat → Nat} {b L : Nat} {xs : Nat → Int32} (hx : p.tables.exec = Jvm.exec) (hb : c.code = code) (hml : c.maxLocals = 9) (hown : s.vm.findClass RL = some m.cls) (hts : ∀ w ∈ lwA, w.before #[Value.ref b] s = true) (hXs : va_X b L xs s s.heap) (hbl : b < s.heap.size) (hK : va_K D vwCl (tyl cy) s) (hN : cG cy (LA s) s s.heap) (hX : cX s) {aI aT adP adS adB adO adR adA aP aS aB aO aR aA aH aM : Nat → Nat} {ah : Nat → Nat → Nat → Nat} {bo : Nat} {imT : Mem} {imdP : Mem} {indP : MemL} {imdS : Mem} {imdB : Mem} {imdO : Mem} {imdR : Mem} {imdA : Mem} {indA : MemL} {imP : Mem} {inP : MemL} {imS : Mem} {imB : Mem} {imO : Mem} {imR : Mem} {imA : Mem} {inA : MemL} {imH : Mem} {ihs : (Nat → PSt)} {imM : Mem} {inM : MemL} {o : Nat → Int64} {H : Heap} {locs : List Loc} {ls : Array Slot} {cells slots : Nat} {i4 : Int32} (hP : va_P D vwCl ([(bo, .inl (cy 1, 1, .inr (.inl o)))] ++ ((W_All cy aI aT adP adS adB adO adR adA aP aS aB aO aR aA aH ah imT imdP indP imdS imdB imdO imdR imdA indA imP inP imS imB imO imR imA inA imH ihs) ++ (W_M cy aM imM inM))) H) (hD : va_D (LA s) ([(bo, .inl (cy 1, 1, .inr (.inl o)))] ++ ((W_All cy aI aT adP adS adB adO adR adA aP aS aB aO aR aA aH ah imT imdP indP imdS imdB imdO imdR imdA indA imP inP imS imB imO imR imA inA imH ihs) ++ (W_M cy aM imM inM)))) (hS : va_S (LA s) s.heap H locs) (hl : lv_has ls 9 [(0, .ref b), (1, .ref (aI 0)), (2, .ref (aM 0)), (3, .ref bo), (4, .int i4)]) (hcl : cells + 16 ≤ 601024) (hsl : slots + 96 ≤ 7293034) {x1 : Int32} (e1 : xs (i4 + 1).toNatClampNeg = x1) (v1 : vp_in (i4 + 1) L) {x2 : Int32} (e2 : xs (i4 + 2).toNatClampNeg = x2) (v2 : vp_in (i4 + 2) L) {x3 : Int32} (e3 : xs (i4 + 3).toNatClampNeg = x3) (v3 : vp_in (i4 + 3) L) {mM' : Mem} {k' : Nat} {r' rM : Int32} {cd : Int32} (hk : k' = 0 ∧ cd = 0 ∨ k' = 1 ∧ cd = 1 ∨ k' = 2 ∧ cd = 2) (hE8 : f_X8_block x1 x2 x3 imT imdP indP imdS imdB imdO imdR imdA indA imP inP imS imB imO imR imA inA imH ihs = some (k', r')) (hE9 : f_X9_block x1 x2 x3 imM inM = some (rM, mM')) (hth : mM' 8 0 = cd) (hr : k' = 0 → r' = rM) (kk : ∀ (o' : Nat → Int64) (H1 : Heap) (locs1 : List Loc) (ls1 : Array Slot), va_P D vwCl ([(bo, .inl (cy 1, 1, .inr (.inl o')))] ++ ((W_All cy aI aT adP adS adB adO adR adA aP aS aB aO aR aA aH ah imT imdP indP imdS imdB imdO imdR imdA indA imP inP imS imB imO imR imA inA imH ihs) ++ (W_M cy aM mM' inM))) H1 → va_D (LA s) ([(bo, .inl (cy 1, 1, .inr (.inl o')))] ++ ((W_All cy aI aT adP adS adB adO adR adA aP aS aB aO aR aA aH ah imT imdP indP imdS imdB imdO imdR imdA indA imP inP imS imB imO imR imA inA imH ihs) ++ (W_M cy aM mM' inM))) → va_S (LA s) s.heap H1 locs1 → lv_has ls1 9 [(0, .ref b), (1, .ref (aI 0)), (2, .ref (aM 0)), (3, .ref bo), (4, .int i4)] → W p l e room_1 s m #[Value.ref b] below meth c H1 locs1 (cells + 16) (slots + 96) Q (F0 m 2094 ls1 [])) : W p l e room_1 s m #[Value.ref b] below meth c H locs cells slots Q (F0 m 1080 ls []) := by
  have hA : ∀ q : Nat, s.heap.size ≤ q → LA s q := fun _ h => h
  have hbA : ¬ LA s b := Nat.not_le.mpr hbl
  have hC : CallFix p m c code 9 s #[Value.ref b] lwA RL := ⟨hx, hb, hml, hown, hts⟩
  obtain ⟨o', ho⟩ : ∃ o', (if k' = 0 then vp_updL o 0 (r'.toInt64) else o) = o' := ⟨_, rfl⟩
  refine lv_aload_n hx hb dL_law_1080 rfl (lv_at hl 1 rfl) ?_
  refine lv_aload_n hx hb dL_law_1081 rfl (lv_at hl 0 rfl) ?_
  refine lv_iload hx hb dL_law_1082 (lv_at hl 4 rfl) ?_
  refine lv_iconst (v := 1) hx hb dL_law_1084 (by decide) ?_
  refine lv_iadd hx hb dL_law_1085 ?_
  refine va_sld hx hb hXs hbl hbA hS v1 dL_law_1086 ?_
  refine s_nm e1.symm ?_
  refine lv_aload_n hx hb dL_law_1087 rfl (lv_at hl 0 rfl) ?_
  refine lv_iload hx hb dL_law_1088 (lv_at hl 4 rfl) ?_
  refine lv_iconst (v := 2) hx hb dL_law_1090 (by decide) ?_
  refine lv_iadd hx hb dL_law_1091 ?_
  refine va_sld hx hb hXs hbl hbA hS v2 dL_law_1092 ?_
  refine s_nm e2.symm ?_
  refine lv_aload_n hx hb dL_law_1093 rfl (lv_at hl 0 rfl) ?_
  refine lv_iload hx hb dL_law_1094 (lv_at hl 4 rfl) ?_
  refine lv_iconst (v := 3) hx hb dL_law_1096 (by decide) ?_
  refine lv_iadd hx hb dL_law_1097 ?_
  refine va_sld hx hb hXs hbl hbA hS v3 dL_law_1098 ?_
  refine s_nm e3.symm ?_
  refine lv_aload_n hx hb dL_law_1099 rfl (lv_at hl 3 rfl) ?_
  refine ki (X := []) (Y := (W_M cy aM imM inM)) (ws1 := [(bo, .inl (cy 1, 1, .inr (.inl o')))] ++ ((W_All cy aI aT adP adS adB adO adR adA aP aS aB aO aR aA aH ah imT imdP indP imdS imdB imdO imdR imdA indA imP inP imS imB imO imR imA inA imH ihs) ++ (W_M cy aM imM inM))) (rH (X := []) (Y := (W_M cy aM imM inM)) (As := [.ref (aI 0), .int x1, .int x2, .int x3, .ref bo]) (rest := []) hC (c_L_block l hst D cy aI aT adP adS adB adO adR adA aP aS aB aO aR aA aH ah bo x1 x2 x3 imT imdP indP imdS imdB imdO imdR imdA indA imP inP imS imB imO imR imA inA imH ihs o o' k' r' cd hk ho hE8) (vx_cwSW (hh := [(0, 12, 15, 21), (0, 12, 19, 13)]) 5 hts gL_law_L_block rfl rfl rfl (by decide +kernel) ⟨Nat.le_of_ble_eq_true rfl, Nat.le_of_ble_eq_true rfl⟩) hK hN hX hP hD hS hA (asm1 _ _ _) rfl hl.1 rfl (lv_room (Nat.le_of_ble_eq_true rfl)) dL_law_1100 ⟨by show cells + 2 ≤ 601024; omega, by show slots + 12 ≤ 7293034; omega⟩) hP hD hS hA (asm1 _ _ _) (fst_L _ _ (fst_All cy aI aT adP adS adB adO adR adA aP aS aB aO aR aA aH ah imT imdP indP imdS imdB imdO imdR imdA indA imP inP imS imB imO imR imA inA imH ihs imT imdP indP imdS imdB imdO imdR imdA indA imP inP imS imB imO imR imA inA imH ihs)) (asm1 _ _ _).symm (fun H locs hP hD hS => ?_)
  refine lv_istore (lv' := [(5, .int cd), (0, .ref b), (1, .ref (aI 0)), (2, .ref (aM 0)), (3, .ref bo), (4, .int i4)]) hx hb dL_law_1103 hl (by decide) rfl (fun ls hl => ?_)
  refine lv_aload_n hx hb dL_law_1105 rfl (lv_at hl 3 rfl) ?_
  refine lv_aload_n hx hb dL_law_1106 rfl (lv_at hl 1 rfl) ?_
  refine lv_iload hx hb dL_law_1107 (lv_at hl 5 rfl) ?_
  refine lv_iconst (v := 1) hx hb dL_law_1109 (by decide) ?_
  refine lv_iadd hx hb dL_law_1110 ?_
  refine va_sld hx hb hXs hbl hbA hS v1 dL_law_1111 ?_
  refine s_nm e1.symm ?_
  refine lv_aload_n hx hb dL_law_1112 rfl (lv_at hl 1 rfl) ?_
  refine lv_iload hx hb dL_law_1113 (lv_at hl 5 rfl) ?_
  refine lv_iconst (v := 2) hx hb dL_law_1115 (by decide) ?_
  refine lv_iadd hx hb dL_law_1116 ?_
  refine va_sld hx hb hXs hbl hbA hS v2 dL_law_1117 ?_
  refine s_nm e2.symm ?_
  refine lv_aload_n hx hb dL_law_1118 rfl (lv_at hl 1 rfl) ?_
  refine lv_iload hx hb dL_law_1119 (lv_at hl 5 rfl) ?_
  refine lv_iconst (v := 3) hx hb dL_law_1121 (by decide) ?_
  refine lv_iadd hx hb dL_law_1122 ?_
  refine va_sld hx hb hXs hbl hbA hS v3 dL_law_1123 ?_
  refine s_nm e3.symm ?_
  refine ki (X := ([(bo, .inl (cy 1, 1, .inr (.inl o')))] ++ (W_All cy aI aT adP adS adB adO adR adA aP aS aB aO aR aA aH ah imT imdP indP imdS imdB imdO imdR imdA indA imP inP imS imB imO imR imA inA imH ihs))) (Y := []) (ws1 := [(bo, .inl (cy 1, 1, .inr (.inl o')))] ++ ((W_All cy aI aT adP adS adB adO adR adA aP aS aB aO aR aA aH ah imT imdP indP imdS imdB imdO imdR imdA indA imP inP imS imB imO imR imA inA imH ihs) ++ (W_M cy aM mM' inM))) (rV (X := ([(bo, .inl (cy 1, 1, .inr (.inl o')))] ++ (W_All cy aI aT adP adS adB adO adR adA aP aS aB aO aR aA aH ah imT imdP indP imdS imdB imdO imdR imdA indA imP inP imS imB imO imR imA inA imH ihs))) (Y := []) (As := [.int x1, .int x2, .int x3]) (rest := []) hC (c_X9_block l D cy aM x1 x2 x3 imM inM rM mM' hE9) (cwV 3 hts gL_law_X9_block rfl rfl rfl cd_X9_block ⟨Nat.le_of_ble_eq_true rfl, Nat.le_of_ble_eq_true rfl⟩) hK hN hP hD hS hA (asm2 _ _ _) 0 9 rfl rfl rfl hl.1 rfl (lv_room (Nat.le_of_ble_eq_true rfl)) dL_law_1124 ⟨by show _ ≤ 601024; omega, by show _ ≤ 7293034; omega⟩) hP hD hS hA (asm2 _ _ _) rfl (asm2 _ _ _).symm (fun H locs hP hD hS => ?_)
  refine lv_istore (lv' := [(6, .int rM), (5, .int cd), (0, .ref b), (1, .ref (aI 0)), (2, .ref (aM 0)), (3, .ref bo), (4, .int i4)]) hx hb dL_law_1127 hl (by decide) rfl (fun ls hl => ?_)
  refine lv_aload_n hx hb dL_law_1129 rfl (lv_at hl 4 rfl) ?_
  refine ki (X := ([(bo, .inl (cy 1, 1, .inr (.inl o')))] ++ (W_All cy aI aT adP adS adB adO adR adA aP aS aB aO aR aA aH ah imT imdP indP imdS imdB imdO imdR imdA indA imP inP imS imB imO imR imA inA imH ihs))) (Y := []) (ws1 := [(bo, .inl (cy 1, 1, .inr (.inl o')))] ++ ((W_All cy aI aT adP adS adB adO adR adA aP aS aB aO aR aA aH ah imT imdP indP imdS imdB imdO imdR imdA indA imP inP imS imB imO imR imA inA imH ihs) ++ (W_M cy aM mM' inM))) (rV (X := ([(bo, .inl (cy 1, 1, .inr (.inl o')))] ++ (W_All cy aI aT adP adS adB adO adR adA aP aS aB aO aR aA aH ah imT imdP indP imdS imdB imdO imdR imdA indA imP inP imS imB imO imR imA inA imH ihs))) (Y := []) (As := []) (rest := []) hC (c_X9_thrown l D cy aM mM' inM (mM' 8 0) rfl) (cwV 0 hts gL_law_X9_thrown rfl rfl rfl cd_X9_thrown ⟨Nat.le_of_ble_eq_true rfl, Nat.le_of_ble_eq_true rfl⟩) hK hN hP hD hS hA (asm2 _ _ _) 0 9 rfl rfl rfl hl.1 rfl (lv_room (Nat.le_of_ble_eq_true rfl)) dL_law_1130 ⟨by show _ ≤ 601024; omega, by show _ ≤ 7293034; omega⟩) hP hD hS hA (asm2 _ _ _) rfl (asm2 _ _ _).symm (fun H locs hP hD hS => ?_)
  refine s_nm hth.symm ?_
  refine lv_iload hx hb dL_law_1133 (lv_at hl 1 rfl) ?_
  refine lv_icmp_eq (tgt := 1140) hx hb dL_law_1135 (by decide) (fun _ => ?_) (fun q9 => absurd rfl q9)
  refine lv_iload hx hb dL_law_1140 (lv_at hl 1 rfl) ?_
  refine lv_if_ne (tgt := 1157) hx hb dL_law_1142 (by decide) (fun q9 => ?_) (fun q9 => ?_)
  · refine lv_goto (tgt := 2094) hx hb dL_law_1157 (by decide) ?_
    refine W.widen (k := cells + 16) (n := slots + 96) (by omega) (by omega) ?_
    exact kk o' _ _ _ hP hD hS (lv_sub hl [2, 3, 4, 5, 6] rfl)
  · have hk0 : k' = 0 := by rcases hk with ⟨a, c9⟩ | ⟨a, c9⟩ | ⟨a, c9⟩ <;> first | exact a | exact absurd (q9.symm.trans c9) (by decide)
    have ho0 : o' 0 = rM.toInt64 := by rw [← ho, if_pos hk0, hr hk0]; rfl
    refine lv_aload_n hx hb dL_law_1145 rfl (lv_at hl 5 rfl) ?_
    refine lv_iconst (v := 0) hx hb dL_law_1146 (by decide) ?_
    refine va_lald hx hb hK hP 0 1 rfl rfl (show ¬ ((0 : Int32) < 0 ∨ 1 ≤ (0 : Int32).toNatClampNeg) by decide) dL_law_1147 ?_
    refine s_nmL (y := rM.toInt64) (by rw [← ho0]; rfl) ?_
    refine lv_iload hx hb dL_law_1148 (lv_at hl 0 rfl) ?_
    refine lv_i2l hx hb dL_law_1150 rfl ?_
    refine W.lcmp hx hb dL_law_1151 ?_
    rw [lg_cmp_self]
    refine lv_if_eq (tgt := 1157) hx hb dL_law_1152 (by decide) (fun _ => ?_) (fun q9 => absurd rfl q9)
    refine lv_goto (tgt := 2094) hx hb dL_law_1157 (by decide) ?_
    refine W.widen (k := cells + 16) (n := slots + 96) (by omega) (by omega) ?_
    exact kk o' _ _ _ hP hD hS (lv_sub hl [2, 3, 4, 5, 6] rfl)
set_option maxHeartbeats 40000000 in
set_option maxRecDepth 100000 in
theorem lc_boat {p : Program} {l : Launch} (hst : l.stackTraces = false) {e : Env} {s : State} {m : MethodId} {below : List Frame} {meth : Method} {c : Code} {Q : State → Prop} {D : va_G} {cy : Nat → Nat} {b L : Nat} {xs : Nat → Int32} (hx : p.tables.exec = Jvm.exec) (hb : c.code = code) (hml : c.maxLocals = 9) (hown : s.vm.findClass RL = some m.cls) (hts : ∀ w ∈ lwA, w.before #[Value.ref b] s = true) (hXs : va_X b L xs s s.heap) (hbl : b < s.heap.size) (hK : va_K D vwCl (tyl cy) s) (hN : cG cy (LA s) s s.heap) (hX : cX s) {aI aT adP adS adB adO adR adA aP aS aB aO aR aA aH aM : Nat → Nat} {ah : Nat → Nat → Nat → Nat} {bo : Nat} {imT : Mem} {imdP : Mem} {indP : MemL} {imdS : Mem} {imdB : Mem} {imdO : Mem} {imdR : Mem} {imdA : Mem} {indA : MemL} {imP : Mem} {inP : MemL} {imS : Mem} {imB : Mem} {imO : Mem} {imR : Mem} {imA : Mem} {inA : MemL} {imH : Mem} {ihs : (Nat → PSt)} {imM : Mem} {inM : MemL} {o : Nat → Int64} {H : Heap} {locs : List Loc} {ls : Array Slot} {cells slots : Nat} {i4 : Int32} (hP : va_P D vwCl ([(bo, .inl (cy 1, 1, .inr (.inl o)))] ++ ((W_All cy aI aT adP adS adB adO adR adA aP aS aB aO aR aA aH ah imT imdP indP imdS imdB imdO imdR imdA indA imP inP imS imB imO imR imA inA imH ihs) ++ (W_M cy aM imM inM))) H) (hD : va_D (LA s) ([(bo, .inl (cy 1, 1, .inr (.inl o)))] ++ ((W_All cy aI aT adP adS adB adO adR adA aP aS aB aO aR aA aH ah imT imdP indP imdS imdB imdO imdR imdA indA imP inP imS imB imO imR imA inA imH ihs) ++ (W_M cy aM imM inM)))) (hS : va_S (LA s) s.heap H locs) (hl : lv_has ls 9 [(0, .ref b), (1, .ref (aI 0)), (2, .ref (aM 0)), (3, .ref bo), (4, .int i4)]) (hcl : cells + 16 ≤ 601024) (hsl : slots + 96 ≤ 7293034) {x1 : Int32} (e1 : xs (i4 + 1).toNatClampNeg = x1) (v1 : vp_in (i4 + 1) L) {x2 : Int32} (e2 : xs (i4 + 2).toNatClampNeg = x2) (v2 : vp_in (i4 + 2) L) {mM' : Mem} {k' : Nat} {r' rM : Int32} {cd : Int32} (hk : k' = 0 ∧ cd = 0 ∨ k' = 1 ∧ cd = 1 ∨ k' = 2 ∧ cd = 2) (hE8 : f_X8_boat x1 x2 imT imdP indP imdS imdB imdO imdR imdA indA imP inP imS imB imO imR imA inA imH ihs = some (k', r')) (hE9 : f_X9_boat x1 x2 imM inM = some (rM, mM')) (hth : mM' 8 0 = cd) (hr : k' = 0 → r' = rM) (kk : ∀ (o' : Nat → Int64) (H1 : Heap) (locs1 : List Loc) (ls1 : Array Slot), va_P D vwCl ([(bo, .inl (cy 1, 1, .inr (.inl o')))] ++ ((W_All cy aI aT adP adS adB adO adR adA aP aS aB aO aR aA aH ah imT imdP indP imdS imdB imdO imdR imdA indA imP inP imS imB imO imR imA inA imH ihs) ++ (W_M cy aM mM' inM))) H1 → va_D (LA s) ([(bo, .inl (cy 1, 1, .inr (.inl o')))] ++ ((W_All cy aI aT adP adS adB adO adR adA aP aS aB aO aR aA aH ah imT imdP indP imdS imdB imdO imdR imdA indA imP inP imS imB imO imR imA inA imH ihs) ++ (W_M cy aM mM' inM))) → va_S (LA s) s.heap H1 locs1 → lv_has ls1 9 [(0, .ref b), (1, .ref (aI 0)), (2, .ref (aM 0)), (3, .ref bo), (4, .int i4)] → W p l e room_1 s m #[Value.ref b] below meth c H1 locs1 (cells + 16) (slots + 96) Q (F0 m 2094 ls1 [])) : W p l e room_1 s m #[Value.ref b] below meth c H locs cells slots Q (F0 m 1160 ls []) := by
  have hA : ∀ q : Nat, s.heap.size ≤ q → LA s q := fun _ h => h
  have hbA : ¬ LA s b := Nat.not_le.mpr hbl
  have hC : CallFix p m c code 9 s #[Value.ref b] lwA RL := ⟨hx, hb, hml, hown, hts⟩
  obtain ⟨o', ho⟩ : ∃ o', (if k' = 0 then vp_updL o 0 (r'.toInt64) else o) = o' := ⟨_, rfl⟩
  refine lv_aload_n hx hb dL_law_1160 rfl (lv_at hl 1 rfl) ?_
  refine lv_aload_n hx hb dL_law_1161 rfl (lv_at hl 0 rfl) ?_
  refine lv_iload hx hb dL_law_1162 (lv_at hl 4 rfl) ?_
  refine lv_iconst (v := 1) hx hb dL_law_1164 (by decide) ?_
  refine lv_iadd hx hb dL_law_1165 ?_
  refine va_sld hx hb hXs hbl hbA hS v1 dL_law_1166 ?_
  refine s_nm e1.symm ?_
  refine lv_aload_n hx hb dL_law_1167 rfl (lv_at hl 0 rfl) ?_
  refine lv_iload hx hb dL_law_1168 (lv_at hl 4 rfl) ?_
  refine lv_iconst (v := 2) hx hb dL_law_1170 (by decide) ?_
  refine lv_iadd hx hb dL_law_1171 ?_
  refine va_sld hx hb hXs hbl hbA hS v2 dL_law_1172 ?_
  refine s_nm e2.symm ?_
  refine lv_aload_n hx hb dL_law_1173 rfl (lv_at hl 3 rfl) ?_
  refine ki (X := []) (Y := (W_M cy aM imM inM)) (ws1 := [(bo, .inl (cy 1, 1, .inr (.inl o')))] ++ ((W_All cy aI aT adP adS adB adO adR adA aP aS aB aO aR aA aH ah imT imdP indP imdS imdB imdO imdR imdA indA imP inP imS imB imO imR imA inA imH ihs) ++ (W_M cy aM imM inM))) (rH (X := []) (Y := (W_M cy aM imM inM)) (As := [.ref (aI 0), .int x1, .int x2, .ref bo]) (rest := []) hC (c_L_boat l hst D cy aI aT adP adS adB adO adR adA aP aS aB aO aR aA aH ah bo x1 x2 imT imdP indP imdS imdB imdO imdR imdA indA imP inP imS imB imO imR imA inA imH ihs o o' k' r' cd hk ho hE8) (vx_cwSW (hh := [(0, 10, 13, 21), (0, 10, 17, 13)]) 4 hts gL_law_L_boat rfl rfl rfl (by decide +kernel) ⟨Nat.le_of_ble_eq_true rfl, Nat.le_of_ble_eq_true rfl⟩) hK hN hX hP hD hS hA (asm1 _ _ _) rfl hl.1 rfl (lv_room (Nat.le_of_ble_eq_true rfl)) dL_law_1174 ⟨by show cells + 2 ≤ 601024; omega, by show slots + 12 ≤ 7293034; omega⟩) hP hD hS hA (asm1 _ _ _) (fst_L _ _ (fst_All cy aI aT adP adS adB adO adR adA aP aS aB aO aR aA aH ah imT imdP indP imdS imdB imdO imdR imdA indA imP inP imS imB imO imR imA inA imH ihs imT imdP indP imdS imdB imdO imdR imdA indA imP inP imS imB imO imR imA inA imH ihs)) (asm1 _ _ _).symm (fun H locs hP hD hS => ?_)
  refine lv_istore (lv' := [(5, .int cd), (0, .ref b), (1, .ref (aI 0)), (2, .ref (aM 0)), (3, .ref bo), (4, .int i4)]) hx hb dL_law_1177 hl (by decide) rfl (fun ls hl => ?_)
  refine lv_aload_n hx hb dL_law_1179 rfl (lv_at hl 3 rfl) ?_
  refine lv_aload_n hx hb dL_law_1180 rfl (lv_at hl 1 rfl) ?_
  refine lv_iload hx hb dL_law_1181 (lv_at hl 5 rfl) ?_
  refine lv_iconst (v := 1) hx hb dL_law_1183 (by decide) ?_
  refine lv_iadd hx hb dL_law_1184 ?_
  refine va_sld hx hb hXs hbl hbA hS v1 dL_law_1185 ?_
  refine s_nm e1.symm ?_
  refine lv_aload_n hx hb dL_law_1186 rfl (lv_at hl 1 rfl) ?_
  refine lv_iload hx hb dL_law_1187 (lv_at hl 5 rfl) ?_
  refine lv_iconst (v := 2) hx hb dL_law_1189 (by decide) ?_
  refine lv_iadd hx hb dL_law_1190 ?_
  refine va_sld hx hb hXs hbl hbA hS v2 dL_law_1191 ?_
  refine s_nm e2.symm ?_
  refine ki (X := ([(bo, .inl (cy 1, 1, .inr (.inl o')))] ++ (W_All cy aI aT adP adS adB adO adR adA aP aS aB aO aR aA aH ah imT imdP indP imdS imdB imdO imdR imdA indA imP inP imS imB imO imR imA inA imH ihs))) (Y := []) (ws1 := [(bo, .inl (cy 1, 1, .inr (.inl o')))] ++ ((W_All cy aI aT adP adS adB adO adR adA aP aS aB aO aR aA aH ah imT imdP indP imdS imdB imdO imdR imdA indA imP inP imS imB imO imR imA inA imH ihs) ++ (W_M cy aM mM' inM))) (rV (X := ([(bo, .inl (cy 1, 1, .inr (.inl o')))] ++ (W_All cy aI aT adP adS adB adO adR adA aP aS aB aO aR aA aH ah imT imdP indP imdS imdB imdO imdR imdA indA imP inP imS imB imO imR imA inA imH ihs))) (Y := []) (As := [.int x1, .int x2]) (rest := []) hC (c_X9_boat l D cy aM x1 x2 imM inM rM mM' hE9) (cwV 2 hts gL_law_X9_boat rfl rfl rfl cd_X9_boat ⟨Nat.le_of_ble_eq_true rfl, Nat.le_of_ble_eq_true rfl⟩) hK hN hP hD hS hA (asm2 _ _ _) 0 9 rfl rfl rfl hl.1 rfl (lv_room (Nat.le_of_ble_eq_true rfl)) dL_law_1192 ⟨by show _ ≤ 601024; omega, by show _ ≤ 7293034; omega⟩) hP hD hS hA (asm2 _ _ _) rfl (asm2 _ _ _).symm (fun H locs hP hD hS => ?_)
  refine lv_istore (lv' := [(6, .int rM), (5, .int cd), (0, .ref b), (1, .ref (aI 0)), (2, .ref (aM 0)), (3, .ref bo), (4, .int i4)]) hx hb dL_law_1195 hl (by decide) rfl (fun ls hl => ?_)
  refine lv_aload_n hx hb dL_law_1197 rfl (lv_at hl 4 rfl) ?_
  refine ki (X := ([(bo, .inl (cy 1, 1, .inr (.inl o')))] ++ (W_All cy aI aT adP adS adB adO adR adA aP aS aB aO aR aA aH ah imT imdP indP imdS imdB imdO imdR imdA indA imP inP imS imB imO imR imA inA imH ihs))) (Y := []) (ws1 := [(bo, .inl (cy 1, 1, .inr (.inl o')))] ++ ((W_All cy aI aT adP adS adB adO adR adA aP aS aB aO aR aA aH ah imT imdP indP imdS imdB imdO imdR imdA indA imP inP imS imB imO imR imA inA imH ihs) ++ (W_M cy aM mM' inM))) (rV (X := ([(bo, .inl (cy 1, 1, .inr (.inl o')))] ++ (W_All cy aI aT adP adS adB adO adR adA aP aS aB aO aR aA aH ah imT imdP indP imdS imdB imdO imdR imdA indA imP inP imS imB imO imR imA inA imH ihs))) (Y := []) (As := []) (rest := []) hC (c_X9_thrown l D cy aM mM' inM (mM' 8 0) rfl) (cwV 0 hts gL_law_X9_thrown rfl rfl rfl cd_X9_thrown ⟨Nat.le_of_ble_eq_true rfl, Nat.le_of_ble_eq_true rfl⟩) hK hN hP hD hS hA (asm2 _ _ _) 0 9 rfl rfl rfl hl.1 rfl (lv_room (Nat.le_of_ble_eq_true rfl)) dL_law_1198 ⟨by show _ ≤ 601024; omega, by show _ ≤ 7293034; omega⟩) hP hD hS hA (asm2 _ _ _) rfl (asm2 _ _ _).symm (fun H locs hP hD hS => ?_)
  refine s_nm hth.symm ?_
  refine lv_iload hx hb dL_law_1201 (lv_at hl 1 rfl) ?_
  refine lv_icmp_eq (tgt := 1208) hx hb dL_law_1203 (by decide) (fun _ => ?_) (fun q9 => absurd rfl q9)
  refine lv_iload hx hb dL_law_1208 (lv_at hl 1 rfl) ?_
  refine lv_if_ne (tgt := 1225) hx hb dL_law_1210 (by decide) (fun q9 => ?_) (fun q9 => ?_)
  · refine lv_goto (tgt := 2094) hx hb dL_law_1225 (by decide) ?_
    refine W.widen (k := cells + 16) (n := slots + 96) (by omega) (by omega) ?_
    exact kk o' _ _ _ hP hD hS (lv_sub hl [2, 3, 4, 5, 6] rfl)
  · have hk0 : k' = 0 := by rcases hk with ⟨a, c9⟩ | ⟨a, c9⟩ | ⟨a, c9⟩ <;> first | exact a | exact absurd (q9.symm.trans c9) (by decide)
    have ho0 : o' 0 = rM.toInt64 := by rw [← ho, if_pos hk0, hr hk0]; rfl
    refine lv_aload_n hx hb dL_law_1213 rfl (lv_at hl 5 rfl) ?_
    refine lv_iconst (v := 0) hx hb dL_law_1214 (by decide) ?_
    refine va_lald hx hb hK hP 0 1 rfl rfl (show ¬ ((0 : Int32) < 0 ∨ 1 ≤ (0 : Int32).toNatClampNeg) by decide) dL_law_1215 ?_
    refine s_nmL (y := rM.toInt64) (by rw [← ho0]; rfl) ?_
    refine lv_iload hx hb dL_law_1216 (lv_at hl 0 rfl) ?_
    refine lv_i2l hx hb dL_law_1218 rfl ?_
    refine W.lcmp hx hb dL_law_1219 ?_
    rw [lg_cmp_self]
    refine lv_if_eq (tgt := 1225) hx hb dL_law_1220 (by decide) (fun _ => ?_) (fun q9 => absurd rfl q9)
    refine lv_goto (tgt := 2094) hx hb dL_law_1225 (by decide) ?_
    refine W.widen (k := cells + 16) (n := slots + 96) (by omega) (by omega) ?_
    exact kk o' _ _ _ hP hD hS (lv_sub hl [2, 3, 4, 5, 6] rfl)
set_option maxHeartbeats 40000000 in
set_option maxRecDepth 100000 in
theorem lc_orderProperty {p : Program} {l : Launch} (hst : l.stackTraces = false) {e : Env} {s : State} {m : MethodId} {below : List Frame} {meth : Method} {c : Code} {Q : State → Prop} {D : va_G} {cy : Nat → Nat} {b L : Nat} {xs : Nat → Int32} (hx : p.tables.exec = Jvm.exec) (hb : c.code = code) (hml : c.maxLocals = 9) (hown : s.vm.findClass RL = some m.cls) (hts : ∀ w ∈ lwA, w.before #[Value.ref b] s = true) (hXs : va_X b L xs s s.heap) (hbl : b < s.heap.size) (hK : va_K D vwCl (tyl cy) s) (hN : cG cy (LA s) s s.heap) (hX : cX s) {aI aT adP adS adB adO adR adA aP aS aB aO aR aA aH aM : Nat → Nat} {ah : Nat → Nat → Nat → Nat} {bo : Nat} {imT : Mem} {imdP : Mem} {indP : MemL} {imdS : Mem} {imdB : Mem} {imdO : Mem} {imdR : Mem} {imdA : Mem} {indA : MemL} {imP : Mem} {inP : MemL} {imS : Mem} {imB : Mem} {imO : Mem} {imR : Mem} {imA : Mem} {inA : MemL} {imH : Mem} {ihs : (Nat → PSt)} {imM : Mem} {inM : MemL} {o : Nat → Int64} {H : Heap} {locs : List Loc} {ls : Array Slot} {cells slots : Nat} {i4 : Int32} (hP : va_P D vwCl ([(bo, .inl (cy 1, 1, .inr (.inl o)))] ++ ((W_All cy aI aT adP adS adB adO adR adA aP aS aB aO aR aA aH ah imT imdP indP imdS imdB imdO imdR imdA indA imP inP imS imB imO imR imA inA imH ihs) ++ (W_M cy aM imM inM))) H) (hD : va_D (LA s) ([(bo, .inl (cy 1, 1, .inr (.inl o)))] ++ ((W_All cy aI aT adP adS adB adO adR adA aP aS aB aO aR aA aH ah imT imdP indP imdS imdB imdO imdR imdA indA imP inP imS imB imO imR imA inA imH ihs) ++ (W_M cy aM imM inM)))) (hS : va_S (LA s) s.heap H locs) (hl : lv_has ls 9 [(0, .ref b), (1, .ref (aI 0)), (2, .ref (aM 0)), (3, .ref bo), (4, .int i4)]) (hcl : cells + 16 ≤ 601024) (hsl : slots + 96 ≤ 7293034) {x1 : Int32} (e1 : xs (i4 + 1).toNatClampNeg = x1) (v1 : vp_in (i4 + 1) L) {x2 : Int32} (e2 : xs (i4 + 2).toNatClampNeg = x2) (v2 : vp_in (i4 + 2) L) {mM' : Mem} {k' : Nat} {r' rM : Int32} {cd : Int32} (hk : k' = 0 ∧ cd = 0 ∨ k' = 1 ∧ cd = 1 ∨ k' = 2 ∧ cd = 2) (hE8 : f_X8_orderProperty x1 x2 imT imdP indP imdS imdB imdO imdR imdA indA imP inP imS imB imO imR imA inA imH ihs = some (k', r')) (hE9 : f_X9_orderProperty x1 x2 imM inM = some (rM, mM')) (hth : mM' 8 0 = cd) (hr : k' = 0 → r' = rM) (kk : ∀ (o' : Nat → Int64) (H1 : Heap) (locs1 : List Loc) (ls1 : Array Slot), va_P D vwCl ([(bo, .inl (cy 1, 1, .inr (.inl o')))] ++ ((W_All cy aI aT adP adS adB adO adR adA aP aS aB aO aR aA aH ah imT imdP indP imdS imdB imdO imdR imdA indA imP inP imS imB imO imR imA inA imH ihs) ++ (W_M cy aM mM' inM))) H1 → va_D (LA s) ([(bo, .inl (cy 1, 1, .inr (.inl o')))] ++ ((W_All cy aI aT adP adS adB adO adR adA aP aS aB aO aR aA aH ah imT imdP indP imdS imdB imdO imdR imdA indA imP inP imS imB imO imR imA inA imH ihs) ++ (W_M cy aM mM' inM))) → va_S (LA s) s.heap H1 locs1 → lv_has ls1 9 [(0, .ref b), (1, .ref (aI 0)), (2, .ref (aM 0)), (3, .ref bo), (4, .int i4)] → W p l e room_1 s m #[Value.ref b] below meth c H1 locs1 (cells + 16) (slots + 96) Q (F0 m 2094 ls1 [])) : W p l e room_1 s m #[Value.ref b] below meth c H locs cells slots Q (F0 m 1228 ls []) := by
  have hA : ∀ q : Nat, s.heap.size ≤ q → LA s q := fun _ h => h
  have hbA : ¬ LA s b := Nat.not_le.mpr hbl
  have hC : CallFix p m c code 9 s #[Value.ref b] lwA RL := ⟨hx, hb, hml, hown, hts⟩
  obtain ⟨o', ho⟩ : ∃ o', (if k' = 0 then vp_updL o 0 (r'.toInt64) else o) = o' := ⟨_, rfl⟩
  refine lv_aload_n hx hb dL_law_1228 rfl (lv_at hl 1 rfl) ?_
  refine lv_aload_n hx hb dL_law_1229 rfl (lv_at hl 0 rfl) ?_
  refine lv_iload hx hb dL_law_1230 (lv_at hl 4 rfl) ?_
  refine lv_iconst (v := 1) hx hb dL_law_1232 (by decide) ?_
  refine lv_iadd hx hb dL_law_1233 ?_
  refine va_sld hx hb hXs hbl hbA hS v1 dL_law_1234 ?_
  refine s_nm e1.symm ?_
  refine lv_aload_n hx hb dL_law_1235 rfl (lv_at hl 0 rfl) ?_
  refine lv_iload hx hb dL_law_1236 (lv_at hl 4 rfl) ?_
  refine lv_iconst (v := 2) hx hb dL_law_1238 (by decide) ?_
  refine lv_iadd hx hb dL_law_1239 ?_
  refine va_sld hx hb hXs hbl hbA hS v2 dL_law_1240 ?_
  refine s_nm e2.symm ?_
  refine lv_aload_n hx hb dL_law_1241 rfl (lv_at hl 3 rfl) ?_
  refine ki (X := []) (Y := (W_M cy aM imM inM)) (ws1 := [(bo, .inl (cy 1, 1, .inr (.inl o')))] ++ ((W_All cy aI aT adP adS adB adO adR adA aP aS aB aO aR aA aH ah imT imdP indP imdS imdB imdO imdR imdA indA imP inP imS imB imO imR imA inA imH ihs) ++ (W_M cy aM imM inM))) (rH (X := []) (Y := (W_M cy aM imM inM)) (As := [.ref (aI 0), .int x1, .int x2, .ref bo]) (rest := []) hC (c_L_orderProperty l hst D cy aI aT adP adS adB adO adR adA aP aS aB aO aR aA aH ah bo x1 x2 imT imdP indP imdS imdB imdO imdR imdA indA imP inP imS imB imO imR imA inA imH ihs o o' k' r' cd hk ho hE8) (vx_cwSW (hh := [(0, 10, 13, 21), (0, 10, 17, 13)]) 4 hts gL_law_L_orderProperty rfl rfl rfl (by decide +kernel) ⟨Nat.le_of_ble_eq_true rfl, Nat.le_of_ble_eq_true rfl⟩) hK hN hX hP hD hS hA (asm1 _ _ _) rfl hl.1 rfl (lv_room (Nat.le_of_ble_eq_true rfl)) dL_law_1242 ⟨by show cells + 2 ≤ 601024; omega, by show slots + 12 ≤ 7293034; omega⟩) hP hD hS hA (asm1 _ _ _) (fst_L _ _ (fst_All cy aI aT adP adS adB adO adR adA aP aS aB aO aR aA aH ah imT imdP indP imdS imdB imdO imdR imdA indA imP inP imS imB imO imR imA inA imH ihs imT imdP indP imdS imdB imdO imdR imdA indA imP inP imS imB imO imR imA inA imH ihs)) (asm1 _ _ _).symm (fun H locs hP hD hS => ?_)
  refine lv_istore (lv' := [(5, .int cd), (0, .ref b), (1, .ref (aI 0)), (2, .ref (aM 0)), (3, .ref bo), (4, .int i4)]) hx hb dL_law_1245 hl (by decide) rfl (fun ls hl => ?_)
  refine lv_aload_n hx hb dL_law_1247 rfl (lv_at hl 3 rfl) ?_
  refine lv_aload_n hx hb dL_law_1248 rfl (lv_at hl 1 rfl) ?_
  refine lv_iload hx hb dL_law_1249 (lv_at hl 5 rfl) ?_
  refine lv_iconst (v := 1) hx hb dL_law_1251 (by decide) ?_
  refine lv_iadd hx hb dL_law_1252 ?_
  refine va_sld hx hb hXs hbl hbA hS v1 dL_law_1253 ?_
  refine s_nm e1.symm ?_
  refine lv_aload_n hx hb dL_law_1254 rfl (lv_at hl 1 rfl) ?_
  refine lv_iload hx hb dL_law_1255 (lv_at hl 5 rfl) ?_
  refine lv_iconst (v := 2) hx hb dL_law_1257 (by decide) ?_
  refine lv_iadd hx hb dL_law_1258 ?_
  refine va_sld hx hb hXs hbl hbA hS v2 dL_law_1259 ?_
  refine s_nm e2.symm ?_
  refine ki (X := ([(bo, .inl (cy 1, 1, .inr (.inl o')))] ++ (W_All cy aI aT adP adS adB adO adR adA aP aS aB aO aR aA aH ah imT imdP indP imdS imdB imdO imdR imdA indA imP inP imS imB imO imR imA inA imH ihs))) (Y := []) (ws1 := [(bo, .inl (cy 1, 1, .inr (.inl o')))] ++ ((W_All cy aI aT adP adS adB adO adR adA aP aS aB aO aR aA aH ah imT imdP indP imdS imdB imdO imdR imdA indA imP inP imS imB imO imR imA inA imH ihs) ++ (W_M cy aM mM' inM))) (rV (X := ([(bo, .inl (cy 1, 1, .inr (.inl o')))] ++ (W_All cy aI aT adP adS adB adO adR adA aP aS aB aO aR aA aH ah imT imdP indP imdS imdB imdO imdR imdA indA imP inP imS imB imO imR imA inA imH ihs))) (Y := []) (As := [.int x1, .int x2]) (rest := []) hC (c_X9_orderProperty l D cy aM x1 x2 imM inM rM mM' hE9) (cwV 2 hts gL_law_X9_orderProperty rfl rfl rfl cd_X9_orderProperty ⟨Nat.le_of_ble_eq_true rfl, Nat.le_of_ble_eq_true rfl⟩) hK hN hP hD hS hA (asm2 _ _ _) 0 9 rfl rfl rfl hl.1 rfl (lv_room (Nat.le_of_ble_eq_true rfl)) dL_law_1260 ⟨by show _ ≤ 601024; omega, by show _ ≤ 7293034; omega⟩) hP hD hS hA (asm2 _ _ _) rfl (asm2 _ _ _).symm (fun H locs hP hD hS => ?_)
  refine lv_istore (lv' := [(6, .int rM), (5, .int cd), (0, .ref b), (1, .ref (aI 0)), (2, .ref (aM 0)), (3, .ref bo), (4, .int i4)]) hx hb dL_law_1263 hl (by decide) rfl (fun ls hl => ?_)
  refine lv_aload_n hx hb dL_law_1265 rfl (lv_at hl 4 rfl) ?_
  refine ki (X := ([(bo, .inl (cy 1, 1, .inr (.inl o')))] ++ (W_All cy aI aT adP adS adB adO adR adA aP aS aB aO aR aA aH ah imT imdP indP imdS imdB imdO imdR imdA indA imP inP imS imB imO imR imA inA imH ihs))) (Y := []) (ws1 := [(bo, .inl (cy 1, 1, .inr (.inl o')))] ++ ((W_All cy aI aT adP adS adB adO adR adA aP aS aB aO aR aA aH ah imT imdP indP imdS imdB imdO imdR imdA indA imP inP imS imB imO imR imA inA imH ihs) ++ (W_M cy aM mM' inM))) (rV (X := ([(bo, .inl (cy 1, 1, .inr (.inl o')))] ++ (W_All cy aI aT adP adS adB adO adR adA aP aS aB aO aR aA aH ah imT imdP indP imdS imdB imdO imdR imdA indA imP inP imS imB imO imR imA inA imH ihs))) (Y := []) (As := []) (rest := []) hC (c_X9_thrown l D cy aM mM' inM (mM' 8 0) rfl) (cwV 0 hts gL_law_X9_thrown rfl rfl rfl cd_X9_thrown ⟨Nat.le_of_ble_eq_true rfl, Nat.le_of_ble_eq_true rfl⟩) hK hN hP hD hS hA (asm2 _ _ _) 0 9 rfl rfl rfl hl.1 rfl (lv_room (Nat.le_of_ble_eq_true rfl)) dL_law_1266 ⟨by show _ ≤ 601024; omega, by show _ ≤ 7293034; omega⟩) hP hD hS hA (asm2 _ _ _) rfl (asm2 _ _ _).symm (fun H locs hP hD hS => ?_)
  refine s_nm hth.symm ?_
  refine lv_iload hx hb dL_law_1269 (lv_at hl 1 rfl) ?_
  refine lv_icmp_eq (tgt := 1276) hx hb dL_law_1271 (by decide) (fun _ => ?_) (fun q9 => absurd rfl q9)
  refine lv_iload hx hb dL_law_1276 (lv_at hl 1 rfl) ?_
  refine lv_if_ne (tgt := 1293) hx hb dL_law_1278 (by decide) (fun q9 => ?_) (fun q9 => ?_)
  · refine lv_goto (tgt := 2094) hx hb dL_law_1293 (by decide) ?_
    refine W.widen (k := cells + 16) (n := slots + 96) (by omega) (by omega) ?_
    exact kk o' _ _ _ hP hD hS (lv_sub hl [2, 3, 4, 5, 6] rfl)
  · have hk0 : k' = 0 := by rcases hk with ⟨a, c9⟩ | ⟨a, c9⟩ | ⟨a, c9⟩ <;> first | exact a | exact absurd (q9.symm.trans c9) (by decide)
    have ho0 : o' 0 = rM.toInt64 := by rw [← ho, if_pos hk0, hr hk0]; rfl
    refine lv_aload_n hx hb dL_law_1281 rfl (lv_at hl 5 rfl) ?_
    refine lv_iconst (v := 0) hx hb dL_law_1282 (by decide) ?_
    refine va_lald hx hb hK hP 0 1 rfl rfl (show ¬ ((0 : Int32) < 0 ∨ 1 ≤ (0 : Int32).toNatClampNeg) by decide) dL_law_1283 ?_
    refine s_nmL (y := rM.toInt64) (by rw [← ho0]; rfl) ?_
    refine lv_iload hx hb dL_law_1284 (lv_at hl 0 rfl) ?_
    refine lv_i2l hx hb dL_law_1286 rfl ?_
    refine W.lcmp hx hb dL_law_1287 ?_
    rw [lg_cmp_self]
    refine lv_if_eq (tgt := 1293) hx hb dL_law_1288 (by decide) (fun _ => ?_) (fun q9 => absurd rfl q9)
    refine lv_goto (tgt := 2094) hx hb dL_law_1293 (by decide) ?_
    refine W.widen (k := cells + 16) (n := slots + 96) (by omega) (by omega) ?_
    exact kk o' _ _ _ hP hD hS (lv_sub hl [2, 3, 4, 5, 6] rfl)
