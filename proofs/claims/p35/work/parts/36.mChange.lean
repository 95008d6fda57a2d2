/-- L_change -/
def f_L_change_b370  (t0 : Int32) (t1 : Int32) (imT : Mem) (imdP : Mem) (indP : MemL) (imdS : Mem) (imdB : Mem) (imdO : Mem) (imdR : Mem) (imdA : Mem) (indA : MemL) (mP : Mem) (nP : MemL) (mS : Mem) (mB : Mem) (mO : Mem) (mR : Mem) (mA : Mem) (nA : MemL) (mH : Mem) (hs : (Nat → PSt)) : Option (Int32 × Mem × MemL × Mem × Mem × Mem × Mem × Mem × MemL × Mem × (Nat → PSt)) := bd4 (f_L_set t1 t0 imT imdP indP imdS imdB imdO imdR imdA indA mP nP mS mB mO mR mA nA mH hs) fun r_1 mP_2 mH_3 hs_4 => some (r_1, mP_2, nP, mS, mB, mO, mR, mA, nA, mH_3, hs_4)
def f_L_change_b326  (x5 : Int32) (t0 : Int32) (imT : Mem) (imdP : Mem) (indP : MemL) (imdS : Mem) (imdB : Mem) (imdO : Mem) (imdR : Mem) (imdA : Mem) (indA : MemL) (mP : Mem) (nP : MemL) (mS : Mem) (mB : Mem) (mO : Mem) (mR : Mem) (mA : Mem) (nA : MemL) (mH : Mem) (hs : (Nat → PSt)) : Option (Int32 × Mem × MemL × Mem × Mem × Mem × Mem × Mem × MemL × Mem × (Nat → PSt)) := bd1 (f_L_low x5 (14 : Int32)) fun r_6 => bd4 (f_L_set t0 r_6 imT imdP indP imdS imdB imdO imdR imdA indA mP nP mS mB mO mR mA nA mH hs) fun r_8 mP_9 mH_10 hs_11 => some (r_8, mP_9, nP, mS, mB, mO, mR, mA, nA, mH_10, hs_11)
def f_L_change_b211  (t0 : Int32) (t1 : Int32) (t2 : Int32) (t3 : Int32) (imT : Mem) (imdP : Mem) (indP : MemL) (imdS : Mem) (imdB : Mem) (imdO : Mem) (imdR : Mem) (imdA : Mem) (indA : MemL) (mP : Mem) (nP : MemL) (mS : Mem) (mB : Mem) (mO : Mem) (mR : Mem) (mA : Mem) (nA : MemL) (mH : Mem) (hs : (Nat → PSt)) : Option (Int32 × Mem × MemL × Mem × Mem × Mem × Mem × Mem × MemL × Mem × (Nat → PSt)) := bd4 (f_L_order t3 t2 t1 t0 imT imdP indP imdS imdB imdO imdR imdA indA mP nP mS mB mO mR mA nA mH hs) fun r_13 mO_14 mH_15 hs_16 => some (r_13, mP, nP, mS, mB, mO_14, mR, mA, nA, mH_15, hs_16)
def f_L_change_b175  (x2 : Int32) (x4 : Int32) (x5 : Int32) (imT : Mem) (imdP : Mem) (indP : MemL) (imdS : Mem) (imdB : Mem) (imdO : Mem) (imdR : Mem) (imdA : Mem) (indA : MemL) (mP : Mem) (nP : MemL) (mS : Mem) (mB : Mem) (mO : Mem) (mR : Mem) (mA : Mem) (nA : MemL) (mH : Mem) (hs : (Nat → PSt)) : Option (Int32 × Mem × MemL × Mem × Mem × Mem × Mem × Mem × MemL × Mem × (Nat → PSt)) := bd1 (f_L_low (x2 / (999 : Int32)) (30 : Int32)) fun r_18 => bd1 (f_L_low (x2 / (31 : Int32)) (2 : Int32)) fun r_20 => (if r_20 = 0 then f_L_change_b211 (1 : Int32) ((1 : Int32) + r_18) (x5 / (8 : Int32)) x4 imT imdP indP imdS imdB imdO imdR imdA indA mP nP mS mB mO mR mA nA mH hs else f_L_change_b211 (0 : Int32) ((1 : Int32) + r_18) (x5 / (8 : Int32)) x4 imT imdP indP imdS imdB imdO imdR imdA indA mP nP mS mB mO mR mA nA mH hs)
def f_L_change_b171  (t0 : Int32) (imT : Mem) (imdP : Mem) (indP : MemL) (imdS : Mem) (imdB : Mem) (imdO : Mem) (imdR : Mem) (imdA : Mem) (indA : MemL) (mP : Mem) (nP : MemL) (mS : Mem) (mB : Mem) (mO : Mem) (mR : Mem) (mA : Mem) (nA : MemL) (mH : Mem) (hs : (Nat → PSt)) : Option (Int32 × Mem × MemL × Mem × Mem × Mem × Mem × Mem × MemL × Mem × (Nat → PSt)) := bd4 (f_L_addBoat t0 imT imdP indP imdS imdB imdO imdR imdA indA mP nP mS mB mO mR mA nA mH hs) fun r_23 mB_24 mH_25 hs_26 => some (r_23, mP, nP, mS, mB_24, mO, mR, mA, nA, mH_25, hs_26)
def f_L_change_b120  (x2 : Int32) (imT : Mem) (imdP : Mem) (indP : MemL) (imdS : Mem) (imdB : Mem) (imdO : Mem) (imdR : Mem) (imdA : Mem) (indA : MemL) (mP : Mem) (nP : MemL) (mS : Mem) (mB : Mem) (mO : Mem) (mR : Mem) (mA : Mem) (nA : MemL) (mH : Mem) (hs : (Nat → PSt)) : Option (Int32 × Mem × MemL × Mem × Mem × Mem × Mem × Mem × MemL × Mem × (Nat → PSt)) := bd1 (f_L_low x2 (31 : Int32)) fun r_28 => bd1 (f_L_low (x2 / (31 : Int32)) (5 : Int32)) fun r_30 => bd1 (f_L_low (x2 / (155 : Int32)) (102 : Int32)) fun r_32 => bd4 (f_L_addSilo r_28 r_30 r_32 imT imdP indP imdS imdB imdO imdR imdA indA mP nP mS mB mO mR mA nA mH hs) fun r_34 mS_35 mH_36 hs_37 => some (r_34, mP, nP, mS_35, mB, mO, mR, mA, nA, mH_36, hs_37)
def f_L_change (x1 : Int32) (x2 : Int32) (imT : Mem) (imdP : Mem) (indP : MemL) (imdS : Mem) (imdB : Mem) (imdO : Mem) (imdR : Mem) (imdA : Mem) (indA : MemL) (imP : Mem) (inP : MemL) (imS : Mem) (imB : Mem) (imO : Mem) (imR : Mem) (imA : Mem) (inA : MemL) (imH : Mem) (ihs : (Nat → PSt)) : Option (Int32 × Mem × MemL × Mem × Mem × Mem × Mem × Mem × MemL × Mem × (Nat → PSt)) := bd1 (f_L_low x2 (6 : Int32)) fun r_39 => bd1 (f_L_low (x2 / (6 : Int32)) (9 : Int32)) fun r_41 => bd1 (f_L_low (x2 / (54 : Int32)) (10000 : Int32)) fun r_43 => bd1 (f_L_low x1 (20 : Int32)) fun r_45 => (if r_45 = 0 then f_L_change_b120 x2 imT imdP indP imdS imdB imdO imdR imdA indA imP inP imS imB imO imR imA inA imH ihs else (if r_45 = 1 then f_L_change_b120 x2 imT imdP indP imdS imdB imdO imdR imdA indA imP inP imS imB imO imR imA inA imH ihs else (if r_45 = 2 then bd1 (f_L_low x2 (3 : Int32)) fun r_138 => (if r_138 = 0 then f_L_change_b171 (5000 : Int32) imT imdP indP imdS imdB imdO imdR imdA indA imP inP imS imB imO imR imA inA imH ihs else bd1 (f_L_low x2 (9000 : Int32)) fun r_141 => f_L_change_b171 r_141 imT imdP indP imdS imdB imdO imdR imdA indA imP inP imS imB imO imR imA inA imH ihs) else (if r_45 = 3 then f_L_change_b175 x2 r_41 r_43 imT imdP indP imdS imdB imdO imdR imdA indA imP inP imS imB imO imR imA inA imH ihs else (if r_45 = 4 then f_L_change_b175 x2 r_41 r_43 imT imdP indP imdS imdB imdO imdR imdA indA imP inP imS imB imO imR imA inA imH ihs else (if r_45 = 5 then f_L_change_b175 x2 r_41 r_43 imT imdP indP imdS imdB imdO imdR imdA indA imP inP imS imB imO imR imA inA imH ihs else (if r_45 = 6 then bd1 (f_L_low x2 (8 : Int32)) fun r_131 => bd4 (f_L_cancel r_131 imT imdP indP imdS imdB imdO imdR imdA indA imP inP imS imB imO imR imA inA imH ihs) fun r_133 mO_134 mH_135 hs_136 => some (r_133, imP, inP, imS, imB, mO_134, imR, imA, inA, mH_135, hs_136) else (if r_45 = 7 then bd5 (f_L_pay r_41 (r_43 * (20 : Int32)) imT imdP indP imdS imdB imdO imdR imdA indA imP inP imS imB imO imR imA inA imH ihs) fun r_125 nP_126 mB_127 mH_128 hs_129 => some (r_125, imP, nP_126, imS, mB_127, imO, imR, imA, inA, mH_128, hs_129) else (if r_45 = 8 then bd4 (f_L_setCatch r_41 (r_43 * (3 : Int32)) imT imdP indP imdS imdB imdO imdR imdA indA imP inP imS imB imO imR imA inA imH ihs) fun r_120 mB_121 mH_122 hs_123 => some (r_120, imP, inP, imS, mB_121, imO, imR, imA, inA, mH_122, hs_123) else (if r_45 = 9 then bd1 (f_L_low r_43 (5 : Int32)) fun r_113 => bd4 (f_L_setRule r_39 r_113 imT imdP indP imdS imdB imdO imdR imdA indA imP inP imS imB imO imR imA inA imH ihs) fun r_115 mS_116 mH_117 hs_118 => some (r_115, imP, inP, mS_116, imB, imO, imR, imA, inA, mH_117, hs_118) else (if r_45 = 10 then bd1 (f_L_low r_43 (102 : Int32)) fun r_106 => bd4 (f_L_setStrength r_39 r_106 imT imdP indP imdS imdB imdO imdR imdA indA imP inP imS imB imO imR imA inA imH ihs) fun r_108 mS_109 mH_110 hs_111 => some (r_108, imP, inP, mS_109, imB, imO, imR, imA, inA, mH_110, hs_111) else (if r_45 = 11 then bd1 (f_L_low r_43 (25 : Int32)) fun r_97 => bd1 (f_L_low (x2 / (7 : Int32)) (67 : Int32)) fun r_99 => bd4 (f_L_setTemperature r_97 (r_99 - (21 : Int32)) imT imdP indP imdS imdB imdO imdR imdA indA imP inP imS imB imO imR imA inA imH ihs) fun r_101 mP_102 mH_103 hs_104 => some (r_101, mP_102, inP, imS, imB, imO, imR, imA, inA, mH_103, hs_104) else (if r_45 = 12 then bd1 (f_L_low r_43 (202 : Int32)) fun r_90 => bd4 (f_L_set (0 : Int32) r_90 imT imdP indP imdS imdB imdO imdR imdA indA imP inP imS imB imO imR imA inA imH ihs) fun r_92 mP_93 mH_94 hs_95 => some (r_92, mP_93, inP, imS, imB, imO, imR, imA, inA, mH_94, hs_95) else (if r_45 = 13 then bd1 (f_L_low x2 (3 : Int32)) fun r_87 => (if r_87 = 0 then f_L_change_b326 r_43 (2 : Int32) imT imdP indP imdS imdB imdO imdR imdA indA imP inP imS imB imO imR imA inA imH ihs else f_L_change_b326 r_43 (1 : Int32) imT imdP indP imdS imdB imdO imdR imdA indA imP inP imS imB imO imR imA inA imH ihs) else (if r_45 = 14 then bd1 (f_L_low x2 (6 : Int32)) fun r_80 => bd1 (f_L_low r_43 (3 : Int32)) fun r_82 => (if r_82 = 0 then f_L_change_b370 (r_43 * (20 : Int32)) ((3 : Int32) + r_80) imT imdP indP imdS imdB imdO imdR imdA indA imP inP imS imB imO imR imA inA imH ihs else bd1 (f_L_low r_43 (101 : Int32)) fun r_85 => f_L_change_b370 r_85 ((3 : Int32) + r_80) imT imdP indP imdS imdB imdO imdR imdA indA imP inP imS imB imO imR imA inA imH ihs) else (if r_45 = 15 then bd1 (f_L_low r_41 (6 : Int32)) fun r_73 => bd4 (f_L_move r_39 r_73 imT imdP indP imdS imdB imdO imdR imdA indA imP inP imS imB imO imR imA inA imH ihs) fun r_75 mS_76 mH_77 hs_78 => some (r_75, imP, inP, mS_76, imB, imO, imR, imA, inA, mH_77, hs_78) else (if r_45 = 16 then bd10 (f_L_undo imT imdP indP imdS imdB imdO imdR imdA indA imP inP imS imB imO imR imA inA imH ihs) fun r_62 mP_63 nP_64 mS_65 mB_66 mO_67 mR_68 mA_69 nA_70 mH_71 => some (r_62, mP_63, nP_64, mS_65, mB_66, mO_67, mR_68, mA_69, nA_70, mH_71, ihs) else bd1 (f_L_low x2 (9 : Int32)) fun r_47 => bd11 (f_L_pass ((1 : Int32) + r_47) imT imdP indP imdS imdB imdO imdR imdA indA imP inP imS imB imO imR imA inA imH ihs) fun r_49 mP_50 nP_51 mS_52 mB_53 mO_54 mR_55 mA_56 nA_57 mH_58 hs_59 => some (r_49, mP_50, nP_51, mS_52, mB_53, mO_54, mR_55, mA_56, nA_57, mH_58, hs_59))))))))))))))))))
abbrev rm_L_change : Room := { frames := 10, cells := 4, slots := 24, locals := 188 }
set_option maxHeartbeats 40000000 in
set_option maxRecDepth 100000 in
theorem c_L_change (l : Launch) (hst : l.stackTraces = false) (D : va_G) (cy : Nat → Nat) (aI aT adP adS adB adO adR adA aP aS aB aO aR aA aH : Nat → Nat) (ah : Nat → Nat → Nat → Nat) (x1 : Int32) (x2 : Int32) (imT : Mem) (imdP : Mem) (indP : MemL) (imdS : Mem) (imdB : Mem) (imdO : Mem) (imdR : Mem) (imdA : Mem) (indA : MemL) (imP : Mem) (inP : MemL) (imS : Mem) (imB : Mem) (imO : Mem) (imR : Mem) (imA : Mem) (inA : MemL) (imH : Mem) (ihs : (Nat → PSt)) (r' : Int32) (mP' : Mem) (nP' : MemL) (mS' : Mem) (mB' : Mem) (mO' : Mem) (mR' : Mem) (mA' : Mem) (nA' : MemL) (mH' : Mem) (hs' : (Nat → PSt)) (hE : f_L_change x1 x2 imT imdP indP imdS imdB imdO imdR imdA indA imP inP imS imB imO imR imA inA imH ihs = some (r', mP', nP', mS', mB', mO', mR', mA', nA', mH', hs')) : CH l yL_change wsL_change rm_L_change D cy [.ref (aI 0), .int x1, .int x2] (W_All cy aI aT adP adS adB adO adR adA aP aS aB aO aR aA aH ah imT imdP indP imdS imdB imdO imdR imdA indA imP inP imS imB imO imR imA inA imH ihs) 4 24 (QI D cy r' (W_All cy aI aT adP adS adB adO adR adA aP aS aB aO aR aA aH ah imT imdP indP imdS imdB imdO imdR imdA indA mP' nP' mS' mB' mO' mR' mA' nA' mH' hs')) := by
  refine CHp_of (cc := cL_change) (maxL := 6) (ret := (some .int)) (by decide) rfl (Nat.le_of_ble_eq_true rfl) (fun p e s m args below meth c A ls hx hb hr hml hlocks hown hts hA hK hN hX hP hD hS hl => ?_)
  have hown : s.vm.findClass RL = some m.cls := hown
  have hl : lv_has ls 6 [(0, .ref (aI 0)), (1, .int x1), (2, .int x2)] := hl
  have hC : CallFix p m c cL_change 6 s args wsL_change RL := ⟨hx, hb, hml, hown, hts⟩
  have h370 : ∀ (t0 : Int32) (t1 : Int32) (mP : Mem) (nP : MemL) (mS : Mem) (mB : Mem) (mO : Mem) (mR : Mem) (mA : Mem) (nA : MemL) (mH : Mem) (hs : (Nat → PSt)), ∀  (H : Heap) (locs : List Loc) (ls : Array Slot), f_L_change_b370 t0 t1 imT imdP indP imdS imdB imdO imdR imdA indA mP nP mS mB mO mR mA nA mH hs = some (r', mP', nP', mS', mB', mO', mR', mA', nA', mH', hs') → va_P D vwCl (W_All cy aI aT adP adS adB adO adR adA aP aS aB aO aR aA aH ah imT imdP indP imdS imdB imdO imdR imdA indA mP nP mS mB mO mR mA nA mH hs) H → va_D A (W_All cy aI aT adP adS adB adO adR adA aP aS aB aO aR aA aH ah imT imdP indP imdS imdB imdO imdR imdA indA mP nP mS mB mO mR mA nA mH hs) → va_S A s.heap H locs → lv_has ls 6 [] → W p l e rm_L_change s m args below meth c H locs 0 0 (MQ below (QI D cy r' (W_All cy aI aT adP adS adB adO adR adA aP aS aB aO aR aA aH ah imT imdP indP imdS imdB imdO imdR imdA indA mP' nP' mS' mB' mO' mR' mA' nA' mH' hs') A) args s 4 24 A) (F0 m 370 ls [.int t0, .int t1, .ref (aI 0)]) := by
    intro t0 t1 mP nP mS mB mO mR mA nA mH hs H locs ls hE hP hD hS hl
    replace hE : (bd4 (f_L_set t1 t0 imT imdP indP imdS imdB imdO imdR imdA indA mP nP mS mB mO mR mA nA mH hs) fun r_1 mP_2 mH_3 hs_4 => some (r_1, mP_2, nP, mS, mB, mO, mR, mA, nA, mH_3, hs_4)) = some (r', mP', nP', mS', mB', mO', mR', mA', nA', mH', hs') := hE
    obtain ⟨r_1, mP_2, mH_3, hs_4, hc_5, hE⟩ := bd4_el hE
    refine ki (X := []) (Y := []) (ws1 := (W_All cy aI aT adP adS adB adO adR adA aP aS aB aO aR aA aH ah imT imdP indP imdS imdB imdO imdR imdA indA mP_2 nP mS mB mO mR mA nA mH_3 hs_4)) (rH (X := []) (Y := []) (As := [.ref (aI 0), .int t1, .int t0]) (rest := []) hC (c_L_set l hst D cy aI aT adP adS adB adO adR adA aP aS aB aO aR aA aH ah t1 t0 imT imdP indP imdS imdB imdO imdR imdA indA mP nP mS mB mO mR mA nA mH hs r_1 mP_2 mH_3 hs_4 hc_5) (vx_cwSW (hh := [(0, 6, 7, 25), (0, 6, 11, 15)]) 3 hts gL_change_L_set rfl rfl rfl (by decide +kernel) ⟨Nat.le_of_ble_eq_true rfl, Nat.le_of_ble_eq_true rfl⟩) hK hN hX hP hD hS hA rfl rfl hl.1 rfl (lv_room (Nat.le_of_ble_eq_true rfl)) dL_change_370 ⟨Nat.le_of_ble_eq_true rfl, Nat.le_of_ble_eq_true rfl⟩) hP hD hS hA rfl (fst_All cy aI aT adP adS adB adO adR adA aP aS aB aO aR aA aH ah imT imdP indP imdS imdB imdO imdR imdA indA mP nP mS mB mO mR mA nA mH hs imT imdP indP imdS imdB imdO imdR imdA indA mP_2 nP mS mB mO mR mA nA mH_3 hs_4) rfl (fun H locs hP hD hS => ?_)
    have hE := Option.some.inj hE
    obtain ⟨q0, hE⟩ := Prod.mk.inj hE
    obtain ⟨q1, hE⟩ := Prod.mk.inj hE
    obtain ⟨q2, hE⟩ := Prod.mk.inj hE
    obtain ⟨q3, hE⟩ := Prod.mk.inj hE
    obtain ⟨q4, hE⟩ := Prod.mk.inj hE
    obtain ⟨q5, hE⟩ := Prod.mk.inj hE
    obtain ⟨q6, hE⟩ := Prod.mk.inj hE
    obtain ⟨q7, hE⟩ := Prod.mk.inj hE
    obtain ⟨q8, hE⟩ := Prod.mk.inj hE
    obtain ⟨q9, q10⟩ := Prod.mk.inj hE
    refine W.widen (k := 4) (n := 24) (Nat.le_of_ble_eq_true rfl) (Nat.le_of_ble_eq_true rfl) ?_
    exact ei hx hb hr hlocks hK hP hD hS q0 (by rw [q1, q2, q3, q4, q5, q6, q7, q8, q9, q10]) dL_change_373
  have h326 : ∀ (x5 : Int32) (t0 : Int32) (mP : Mem) (nP : MemL) (mS : Mem) (mB : Mem) (mO : Mem) (mR : Mem) (mA : Mem) (nA : MemL) (mH : Mem) (hs : (Nat → PSt)), ∀  (H : Heap) (locs : List Loc) (ls : Array Slot), f_L_change_b326 x5 t0 imT imdP indP imdS imdB imdO imdR imdA indA mP nP mS mB mO mR mA nA mH hs = some (r', mP', nP', mS', mB', mO', mR', mA', nA', mH', hs') → va_P D vwCl (W_All cy aI aT adP adS adB adO adR adA aP aS aB aO aR aA aH ah imT imdP indP imdS imdB imdO imdR imdA indA mP nP mS mB mO mR mA nA mH hs) H → va_D A (W_All cy aI aT adP adS adB adO adR adA aP aS aB aO aR aA aH ah imT imdP indP imdS imdB imdO imdR imdA indA mP nP mS mB mO mR mA nA mH hs) → va_S A s.heap H locs → lv_has ls 6 [(5, .int x5)] → W p l e rm_L_change s m args below meth c H locs 0 0 (MQ below (QI D cy r' (W_All cy aI aT adP adS adB adO adR adA aP aS aB aO aR aA aH ah imT imdP indP imdS imdB imdO imdR imdA indA mP' nP' mS' mB' mO' mR' mA' nA' mH' hs') A) args s 4 24 A) (F0 m 326 ls [.int t0, .ref (aI 0)]) := by
    intro x5 t0 mP nP mS mB mO mR mA nA mH hs H locs ls hE hP hD hS hl
    replace hE : (bd1 (f_L_low x5 (14 : Int32)) fun r_6 => bd4 (f_L_set t0 r_6 imT imdP indP imdS imdB imdO imdR imdA indA mP nP mS mB mO mR mA nA mH hs) fun r_8 mP_9 mH_10 hs_11 => some (r_8, mP_9, nP, mS, mB, mO, mR, mA, nA, mH_10, hs_11)) = some (r', mP', nP', mS', mB', mO', mR', mA', nA', mH', hs') := hE
    refine lv_iload hx hb dL_change_326 (lv_at hl 0 rfl) ?_
    refine lv_bipush (v := 14) hx hb dL_change_328 (by decide) ?_
    obtain ⟨r_6, hc_7, hE⟩ := bd1_el hE
    refine ki (X := []) (Y := (W_All cy aI aT adP adS adB adO adR adA aP aS aB aO aR aA aH ah imT imdP indP imdS imdB imdO imdR imdA indA mP nP mS mB mO mR mA nA mH hs)) (ws1 := (W_All cy aI aT adP adS adB adO adR adA aP aS aB aO aR aA aH ah imT imdP indP imdS imdB imdO imdR imdA indA mP nP mS mB mO mR mA nA mH hs)) (rS (X := []) (Y := (W_All cy aI aT adP adS adB adO adR adA aP aS aB aO aR aA aH ah imT imdP indP imdS imdB imdO imdR imdA indA mP nP mS mB mO mR mA nA mH hs)) (As := [.int x5, .int (14 : Int32)]) (rest := [.int t0, .ref (aI 0)]) hC (c_L_low l D cy x5 (14 : Int32) r_6 hc_7) (cwS 2 hts gL_change_L_low rfl rfl rfl (by decide +kernel) ⟨Nat.le_of_ble_eq_true rfl, Nat.le_of_ble_eq_true rfl⟩) hK hN hP hD hS hA rfl rfl hl.1 rfl (lv_room (Nat.le_of_ble_eq_true rfl)) dL_change_330 ⟨Nat.le_of_ble_eq_true rfl, Nat.le_of_ble_eq_true rfl⟩) hP hD hS hA rfl rfl rfl (fun H locs hP hD hS => ?_)
    obtain ⟨r_8, mP_9, mH_10, hs_11, hc_12, hE⟩ := bd4_el hE
    refine ki (X := []) (Y := []) (ws1 := (W_All cy aI aT adP adS adB adO adR adA aP aS aB aO aR aA aH ah imT imdP indP imdS imdB imdO imdR imdA indA mP_9 nP mS mB mO mR mA nA mH_10 hs_11)) (rH (X := []) (Y := []) (As := [.ref (aI 0), .int t0, .int r_6]) (rest := []) hC (c_L_set l hst D cy aI aT adP adS adB adO adR adA aP aS aB aO aR aA aH ah t0 r_6 imT imdP indP imdS imdB imdO imdR imdA indA mP nP mS mB mO mR mA nA mH hs r_8 mP_9 mH_10 hs_11 hc_12) (vx_cwSW (hh := [(0, 6, 7, 25), (0, 6, 11, 15)]) 3 hts gL_change_L_set rfl rfl rfl (by decide +kernel) ⟨Nat.le_of_ble_eq_true rfl, Nat.le_of_ble_eq_true rfl⟩) hK hN hX hP hD hS hA rfl rfl hl.1 rfl (lv_room (Nat.le_of_ble_eq_true rfl)) dL_change_333 ⟨Nat.le_of_ble_eq_true rfl, Nat.le_of_ble_eq_true rfl⟩) hP hD hS hA rfl (fst_All cy aI aT adP adS adB adO adR adA aP aS aB aO aR aA aH ah imT imdP indP imdS imdB imdO imdR imdA indA mP nP mS mB mO mR mA nA mH hs imT imdP indP imdS imdB imdO imdR imdA indA mP_9 nP mS mB mO mR mA nA mH_10 hs_11) rfl (fun H locs hP hD hS => ?_)
    have hE := Option.some.inj hE
    obtain ⟨q0, hE⟩ := Prod.mk.inj hE
    obtain ⟨q1, hE⟩ := Prod.mk.inj hE
    obtain ⟨q2, hE⟩ := Prod.mk.inj hE
    obtain ⟨q3, hE⟩ := Prod.mk.inj hE
    obtain ⟨q4, hE⟩ := Prod.mk.inj hE
    obtain ⟨q5, hE⟩ := Prod.mk.inj hE
    obtain ⟨q6, hE⟩ := Prod.mk.inj hE
    obtain ⟨q7, hE⟩ := Prod.mk.inj hE
    obtain ⟨q8, hE⟩ := Prod.mk.inj hE
    obtain ⟨q9, q10⟩ := Prod.mk.inj hE
    refine W.widen (k := 4) (n := 24) (Nat.le_of_ble_eq_true rfl) (Nat.le_of_ble_eq_true rfl) ?_
    exact ei hx hb hr hlocks hK hP hD hS q0 (by rw [q1, q2, q3, q4, q5, q6, q7, q8, q9, q10]) dL_change_336
  have h211 : ∀ (t0 : Int32) (t1 : Int32) (t2 : Int32) (t3 : Int32) (mP : Mem) (nP : MemL) (mS : Mem) (mB : Mem) (mO : Mem) (mR : Mem) (mA : Mem) (nA : MemL) (mH : Mem) (hs : (Nat → PSt)), ∀  (H : Heap) (locs : List Loc) (ls : Array Slot), f_L_change_b211 t0 t1 t2 t3 imT imdP indP imdS imdB imdO imdR imdA indA mP nP mS mB mO mR mA nA mH hs = some (r', mP', nP', mS', mB', mO', mR', mA', nA', mH', hs') → va_P D vwCl (W_All cy aI aT adP adS adB adO adR adA aP aS aB aO aR aA aH ah imT imdP indP imdS imdB imdO imdR imdA indA mP nP mS mB mO mR mA nA mH hs) H → va_D A (W_All cy aI aT adP adS adB adO adR adA aP aS aB aO aR aA aH ah imT imdP indP imdS imdB imdO imdR imdA indA mP nP mS mB mO mR mA nA mH hs) → va_S A s.heap H locs → lv_has ls 6 [] → W p l e rm_L_change s m args below meth c H locs 0 0 (MQ below (QI D cy r' (W_All cy aI aT adP adS adB adO adR adA aP aS aB aO aR aA aH ah imT imdP indP imdS imdB imdO imdR imdA indA mP' nP' mS' mB' mO' mR' mA' nA' mH' hs') A) args s 4 24 A) (F0 m 211 ls [.int t0, .int t1, .int t2, .int t3, .ref (aI 0)]) := by
    intro t0 t1 t2 t3 mP nP mS mB mO mR mA nA mH hs H locs ls hE hP hD hS hl
    replace hE : (bd4 (f_L_order t3 t2 t1 t0 imT imdP indP imdS imdB imdO imdR imdA indA mP nP mS mB mO mR mA nA mH hs) fun r_13 mO_14 mH_15 hs_16 => some (r_13, mP, nP, mS, mB, mO_14, mR, mA, nA, mH_15, hs_16)) = some (r', mP', nP', mS', mB', mO', mR', mA', nA', mH', hs') := hE
    obtain ⟨r_13, mO_14, mH_15, hs_16, hc_17, hE⟩ := bd4_el hE
    refine ki (X := []) (Y := []) (ws1 := (W_All cy aI aT adP adS adB adO adR adA aP aS aB aO aR aA aH ah imT imdP indP imdS imdB imdO imdR imdA indA mP nP mS mB mO_14 mR mA nA mH_15 hs_16)) (rH (X := []) (Y := []) (As := [.ref (aI 0), .int t3, .int t2, .int t1, .int t0]) (rest := []) hC (c_L_order l hst D cy aI aT adP adS adB adO adR adA aP aS aB aO aR aA aH ah t3 t2 t1 t0 imT imdP indP imdS imdB imdO imdR imdA indA mP nP mS mB mO mR mA nA mH hs r_13 mO_14 mH_15 hs_16 hc_17) (vx_cwSW (hh := [(0, 9, 10, 25), (0, 9, 15, 15), (0, 9, 20, 18)]) 5 hts gL_change_L_order rfl rfl rfl (by decide +kernel) ⟨Nat.le_of_ble_eq_true rfl, Nat.le_of_ble_eq_true rfl⟩) hK hN hX hP hD hS hA rfl rfl hl.1 rfl (lv_room (Nat.le_of_ble_eq_true rfl)) dL_change_211 ⟨Nat.le_of_ble_eq_true rfl, Nat.le_of_ble_eq_true rfl⟩) hP hD hS hA rfl (fst_All cy aI aT adP adS adB adO adR adA aP aS aB aO aR aA aH ah imT imdP indP imdS imdB imdO imdR imdA indA mP nP mS mB mO mR mA nA mH hs imT imdP indP imdS imdB imdO imdR imdA indA mP nP mS mB mO_14 mR mA nA mH_15 hs_16) rfl (fun H locs hP hD hS => ?_)
    have hE := Option.some.inj hE
    obtain ⟨q0, hE⟩ := Prod.mk.inj hE
    obtain ⟨q1, hE⟩ := Prod.mk.inj hE
    obtain ⟨q2, hE⟩ := Prod.mk.inj hE
    obtain ⟨q3, hE⟩ := Prod.mk.inj hE
    obtain ⟨q4, hE⟩ := Prod.mk.inj hE
    obtain ⟨q5, hE⟩ := Prod.mk.inj hE
    obtain ⟨q6, hE⟩ := Prod.mk.inj hE
    obtain ⟨q7, hE⟩ := Prod.mk.inj hE
    obtain ⟨q8, hE⟩ := Prod.mk.inj hE
    obtain ⟨q9, q10⟩ := Prod.mk.inj hE
    refine W.widen (k := 4) (n := 24) (Nat.le_of_ble_eq_true rfl) (Nat.le_of_ble_eq_true rfl) ?_
    exact ei hx hb hr hlocks hK hP hD hS q0 (by rw [q1, q2, q3, q4, q5, q6, q7, q8, q9, q10]) dL_change_214
  have h175 : ∀ (x2 : Int32) (x4 : Int32) (x5 : Int32) (mP : Mem) (nP : MemL) (mS : Mem) (mB : Mem) (mO : Mem) (mR : Mem) (mA : Mem) (nA : MemL) (mH : Mem) (hs : (Nat → PSt)), ∀  (H : Heap) (locs : List Loc) (ls : Array Slot), f_L_change_b175 x2 x4 x5 imT imdP indP imdS imdB imdO imdR imdA indA mP nP mS mB mO mR mA nA mH hs = some (r', mP', nP', mS', mB', mO', mR', mA', nA', mH', hs') → va_P D vwCl (W_All cy aI aT adP adS adB adO adR adA aP aS aB aO aR aA aH ah imT imdP indP imdS imdB imdO imdR imdA indA mP nP mS mB mO mR mA nA mH hs) H → va_D A (W_All cy aI aT adP adS adB adO adR adA aP aS aB aO aR aA aH ah imT imdP indP imdS imdB imdO imdR imdA indA mP nP mS mB mO mR mA nA mH hs) → va_S A s.heap H locs → lv_has ls 6 [(0, .ref (aI 0)), (2, .int x2), (4, .int x4), (5, .int x5)] → W p l e rm_L_change s m args below meth c H locs 0 0 (MQ below (QI D cy r' (W_All cy aI aT adP adS adB adO adR adA aP aS aB aO aR aA aH ah imT imdP indP imdS imdB imdO imdR imdA indA mP' nP' mS' mB' mO' mR' mA' nA' mH' hs') A) args s 4 24 A) (F0 m 175 ls []) := by
    intro x2 x4 x5 mP nP mS mB mO mR mA nA mH hs H locs ls hE hP hD hS hl
    replace hE : (bd1 (f_L_low (x2 / (999 : Int32)) (30 : Int32)) fun r_18 => bd1 (f_L_low (x2 / (31 : Int32)) (2 : Int32)) fun r_20 => (if r_20 = 0 then f_L_change_b211 (1 : Int32) ((1 : Int32) + r_18) (x5 / (8 : Int32)) x4 imT imdP indP imdS imdB imdO imdR imdA indA mP nP mS mB mO mR mA nA mH hs else f_L_change_b211 (0 : Int32) ((1 : Int32) + r_18) (x5 / (8 : Int32)) x4 imT imdP indP imdS imdB imdO imdR imdA indA mP nP mS mB mO mR mA nA mH hs)) = some (r', mP', nP', mS', mB', mO', mR', mA', nA', mH', hs') := hE
    refine lv_aload_n hx hb dL_change_175 rfl (lv_at hl 0 rfl) ?_
    refine lv_iload hx hb dL_change_176 (lv_at hl 2 rfl) ?_
    refine lv_iload hx hb dL_change_178 (lv_at hl 3 rfl) ?_
    refine lv_bipush (v := 8) hx hb dL_change_180 (by decide) ?_
    refine lv_idiv hx hb dL_change_182 (by decide) ?_
    refine lv_iconst (v := 1) hx hb dL_change_183 (by decide) ?_
    refine lv_iload_n hx hb dL_change_184 rfl (lv_at hl 1 rfl) ?_
    refine lv_sipush (v := 999) hx hb dL_change_185 (by decide) ?_
    refine lv_idiv hx hb dL_change_188 (by decide) ?_
    refine lv_bipush (v := 30) hx hb dL_change_189 (by decide) ?_
    obtain ⟨r_18, hc_19, hE⟩ := bd1_el hE
    refine ki (X := []) (Y := (W_All cy aI aT adP adS adB adO adR adA aP aS aB aO aR aA aH ah imT imdP indP imdS imdB imdO imdR imdA indA mP nP mS mB mO mR mA nA mH hs)) (ws1 := (W_All cy aI aT adP adS adB adO adR adA aP aS aB aO aR aA aH ah imT imdP indP imdS imdB imdO imdR imdA indA mP nP mS mB mO mR mA nA mH hs)) (rS (X := []) (Y := (W_All cy aI aT adP adS adB adO adR adA aP aS aB aO aR aA aH ah imT imdP indP imdS imdB imdO imdR imdA indA mP nP mS mB mO mR mA nA mH hs)) (As := [.int (x2 / (999 : Int32)), .int (30 : Int32)]) (rest := [.int (1 : Int32), .int (x5 / (8 : Int32)), .int x4, .ref (aI 0)]) hC (c_L_low l D cy (x2 / (999 : Int32)) (30 : Int32) r_18 hc_19) (cwS 2 hts gL_change_L_low rfl rfl rfl (by decide +kernel) ⟨Nat.le_of_ble_eq_true rfl, Nat.le_of_ble_eq_true rfl⟩) hK hN hP hD hS hA rfl rfl hl.1 rfl (lv_room (Nat.le_of_ble_eq_true rfl)) dL_change_191 ⟨Nat.le_of_ble_eq_true rfl, Nat.le_of_ble_eq_true rfl⟩) hP hD hS hA rfl rfl rfl (fun H locs hP hD hS => ?_)
    refine lv_iadd hx hb dL_change_194 ?_
    refine lv_iload_n hx hb dL_change_195 rfl (lv_at hl 1 rfl) ?_
    refine lv_bipush (v := 31) hx hb dL_change_196 (by decide) ?_
    refine lv_idiv hx hb dL_change_198 (by decide) ?_
    refine lv_iconst (v := 2) hx hb dL_change_199 (by decide) ?_
    obtain ⟨r_20, hc_21, hE⟩ := bd1_el hE
    refine ki (X := []) (Y := (W_All cy aI aT adP adS adB adO adR adA aP aS aB aO aR aA aH ah imT imdP indP imdS imdB imdO imdR imdA indA mP nP mS mB mO mR mA nA mH hs)) (ws1 := (W_All cy aI aT adP adS adB adO adR adA aP aS aB aO aR aA aH ah imT imdP indP imdS imdB imdO imdR imdA indA mP nP mS mB mO mR mA nA mH hs)) (rS (X := []) (Y := (W_All cy aI aT adP adS adB adO adR adA aP aS aB aO aR aA aH ah imT imdP indP imdS imdB imdO imdR imdA indA mP nP mS mB mO mR mA nA mH hs)) (As := [.int (x2 / (31 : Int32)), .int (2 : Int32)]) (rest := [.int ((1 : Int32) + r_18), .int (x5 / (8 : Int32)), .int x4, .ref (aI 0)]) hC (c_L_low l D cy (x2 / (31 : Int32)) (2 : Int32) r_20 hc_21) (cwS 2 hts gL_change_L_low rfl rfl rfl (by decide +kernel) ⟨Nat.le_of_ble_eq_true rfl, Nat.le_of_ble_eq_true rfl⟩) hK hN hP hD hS hA rfl rfl hl.1 rfl (lv_room (Nat.le_of_ble_eq_true rfl)) dL_change_200 ⟨Nat.le_of_ble_eq_true rfl, Nat.le_of_ble_eq_true rfl⟩) hP hD hS hA rfl rfl rfl (fun H locs hP hD hS => ?_)
    refine lv_if_ne (tgt := 210) hx hb dL_change_203 (by decide) (fun c_22 => ?_) (fun c_22 => ?_)
    · replace hE := it_f hE c_22
      refine lv_iconst (v := 0) hx hb dL_change_210 (by decide) ?_
      refine W.widen (k := 0) (n := 0) (Nat.le_of_ble_eq_true rfl) (Nat.le_of_ble_eq_true rfl) ?_
      exact h211 (0 : Int32) ((1 : Int32) + r_18) (x5 / (8 : Int32)) x4 mP nP mS mB mO mR mA nA mH hs _ _ _ hE hP hD hS (lv_sub hl [] rfl)
    · replace hE := it_t hE c_22
      refine lv_iconst (v := 1) hx hb dL_change_206 (by decide) ?_
      refine lv_goto (tgt := 211) hx hb dL_change_207 (by decide) ?_
      refine W.widen (k := 0) (n := 0) (Nat.le_of_ble_eq_true rfl) (Nat.le_of_ble_eq_true rfl) ?_
      exact h211 (1 : Int32) ((1 : Int32) + r_18) (x5 / (8 : Int32)) x4 mP nP mS mB mO mR mA nA mH hs _ _ _ hE hP hD hS (lv_sub hl [] rfl)
  have h171 : ∀ (t0 : Int32) (mP : Mem) (nP : MemL) (mS : Mem) (mB : Mem) (mO : Mem) (mR : Mem) (mA : Mem) (nA : MemL) (mH : Mem) (hs : (Nat → PSt)), ∀  (H : Heap) (locs : List Loc) (ls : Array Slot), f_L_change_b171 t0 imT imdP indP imdS imdB imdO imdR imdA indA mP nP mS mB mO mR mA nA mH hs = some (r', mP', nP', mS', mB', mO', mR', mA', nA', mH', hs') → va_P D vwCl (W_All cy aI aT adP adS adB adO adR adA aP aS aB aO aR aA aH ah imT imdP indP imdS imdB imdO imdR imdA indA mP nP mS mB mO mR mA nA mH hs) H → va_D A (W_All cy aI aT adP adS adB adO adR adA aP aS aB aO aR aA aH ah imT imdP indP imdS imdB imdO imdR imdA indA mP nP mS mB mO mR mA nA mH hs) → va_S A s.heap H locs → lv_has ls 6 [] → W p l e rm_L_change s m args below meth c H locs 0 0 (MQ below (QI D cy r' (W_All cy aI aT adP adS adB adO adR adA aP aS aB aO aR aA aH ah imT imdP indP imdS imdB imdO imdR imdA indA mP' nP' mS' mB' mO' mR' mA' nA' mH' hs') A) args s 4 24 A) (F0 m 171 ls [.int t0, .ref (aI 0)]) := by
    intro t0 mP nP mS mB mO mR mA nA mH hs H locs ls hE hP hD hS hl
    replace hE : (bd4 (f_L_addBoat t0 imT imdP indP imdS imdB imdO imdR imdA indA mP nP mS mB mO mR mA nA mH hs) fun r_23 mB_24 mH_25 hs_26 => some (r_23, mP, nP, mS, mB_24, mO, mR, mA, nA, mH_25, hs_26)) = some (r', mP', nP', mS', mB', mO', mR', mA', nA', mH', hs') := hE
    obtain ⟨r_23, mB_24, mH_25, hs_26, hc_27, hE⟩ := bd4_el hE
    refine ki (X := []) (Y := []) (ws1 := (W_All cy aI aT adP adS adB adO adR adA aP aS aB aO aR aA aH ah imT imdP indP imdS imdB imdO imdR imdA indA mP nP mS mB_24 mO mR mA nA mH_25 hs_26)) (rH (X := []) (Y := []) (As := [.ref (aI 0), .int t0]) (rest := []) hC (c_L_addBoat l hst D cy aI aT adP adS adB adO adR adA aP aS aB aO aR aA aH ah t0 imT imdP indP imdS imdB imdO imdR imdA indA mP nP mS mB mO mR mA nA mH hs r_23 mB_24 mH_25 hs_26 hc_27) (vx_cwSW (hh := [(0, 5, 6, 15), (0, 5, 10, 18)]) 2 hts gL_change_L_addBoat rfl rfl rfl (by decide +kernel) ⟨Nat.le_of_ble_eq_true rfl, Nat.le_of_ble_eq_true rfl⟩) hK hN hX hP hD hS hA rfl rfl hl.1 rfl (lv_room (Nat.le_of_ble_eq_true rfl)) dL_change_171 ⟨Nat.le_of_ble_eq_true rfl, Nat.le_of_ble_eq_true rfl⟩) hP hD hS hA rfl (fst_All cy aI aT adP adS adB adO adR adA aP aS aB aO aR aA aH ah imT imdP indP imdS imdB imdO imdR imdA indA mP nP mS mB mO mR mA nA mH hs imT imdP indP imdS imdB imdO imdR imdA indA mP nP mS mB_24 mO mR mA nA mH_25 hs_26) rfl (fun H locs hP hD hS => ?_)
    have hE := Option.some.inj hE
    obtain ⟨q0, hE⟩ := Prod.mk.inj hE
    obtain ⟨q1, hE⟩ := Prod.mk.inj hE
    obtain ⟨q2, hE⟩ := Prod.mk.inj hE
    obtain ⟨q3, hE⟩ := Prod.mk.inj hE
    obtain ⟨q4, hE⟩ := Prod.mk.inj hE
    obtain ⟨q5, hE⟩ := Prod.mk.inj hE
    obtain ⟨q6, hE⟩ := Prod.mk.inj hE
    obtain ⟨q7, hE⟩ := Prod.mk.inj hE
    obtain ⟨q8, hE⟩ := Prod.mk.inj hE
    obtain ⟨q9, q10⟩ := Prod.mk.inj hE
    refine W.widen (k := 4) (n := 24) (Nat.le_of_ble_eq_true rfl) (Nat.le_of_ble_eq_true rfl) ?_
    exact ei hx hb hr hlocks hK hP hD hS q0 (by rw [q1, q2, q3, q4, q5, q6, q7, q8, q9, q10]) dL_change_174
  have h120 : ∀ (x2 : Int32) (mP : Mem) (nP : MemL) (mS : Mem) (mB : Mem) (mO : Mem) (mR : Mem) (mA : Mem) (nA : MemL) (mH : Mem) (hs : (Nat → PSt)), ∀  (H : Heap) (locs : List Loc) (ls : Array Slot), f_L_change_b120 x2 imT imdP indP imdS imdB imdO imdR imdA indA mP nP mS mB mO mR mA nA mH hs = some (r', mP', nP', mS', mB', mO', mR', mA', nA', mH', hs') → va_P D vwCl (W_All cy aI aT adP adS adB adO adR adA aP aS aB aO aR aA aH ah imT imdP indP imdS imdB imdO imdR imdA indA mP nP mS mB mO mR mA nA mH hs) H → va_D A (W_All cy aI aT adP adS adB adO adR adA aP aS aB aO aR aA aH ah imT imdP indP imdS imdB imdO imdR imdA indA mP nP mS mB mO mR mA nA mH hs) → va_S A s.heap H locs → lv_has ls 6 [(0, .ref (aI 0)), (2, .int x2)] → W p l e rm_L_change s m args below meth c H locs 0 0 (MQ below (QI D cy r' (W_All cy aI aT adP adS adB adO adR adA aP aS aB aO aR aA aH ah imT imdP indP imdS imdB imdO imdR imdA indA mP' nP' mS' mB' mO' mR' mA' nA' mH' hs') A) args s 4 24 A) (F0 m 120 ls []) := by
    intro x2 mP nP mS mB mO mR mA nA mH hs H locs ls hE hP hD hS hl
    replace hE : (bd1 (f_L_low x2 (31 : Int32)) fun r_28 => bd1 (f_L_low (x2 / (31 : Int32)) (5 : Int32)) fun r_30 => bd1 (f_L_low (x2 / (155 : Int32)) (102 : Int32)) fun r_32 => bd4 (f_L_addSilo r_28 r_30 r_32 imT imdP indP imdS imdB imdO imdR imdA indA mP nP mS mB mO mR mA nA mH hs) fun r_34 mS_35 mH_36 hs_37 => some (r_34, mP, nP, mS_35, mB, mO, mR, mA, nA, mH_36, hs_37)) = some (r', mP', nP', mS', mB', mO', mR', mA', nA', mH', hs') := hE
    refine lv_aload_n hx hb dL_change_120 rfl (lv_at hl 0 rfl) ?_
    refine lv_iload_n hx hb dL_change_121 rfl (lv_at hl 1 rfl) ?_
    refine lv_bipush (v := 31) hx hb dL_change_122 (by decide) ?_
    obtain ⟨r_28, hc_29, hE⟩ := bd1_el hE
    refine ki (X := []) (Y := (W_All cy aI aT adP adS adB adO adR adA aP aS aB aO aR aA aH ah imT imdP indP imdS imdB imdO imdR imdA indA mP nP mS mB mO mR mA nA mH hs)) (ws1 := (W_All cy aI aT adP adS adB adO adR adA aP aS aB aO aR aA aH ah imT imdP indP imdS imdB imdO imdR imdA indA mP nP mS mB mO mR mA nA mH hs)) (rS (X := []) (Y := (W_All cy aI aT adP adS adB adO adR adA aP aS aB aO aR aA aH ah imT imdP indP imdS imdB imdO imdR imdA indA mP nP mS mB mO mR mA nA mH hs)) (As := [.int x2, .int (31 : Int32)]) (rest := [.ref (aI 0)]) hC (c_L_low l D cy x2 (31 : Int32) r_28 hc_29) (cwS 2 hts gL_change_L_low rfl rfl rfl (by decide +kernel) ⟨Nat.le_of_ble_eq_true rfl, Nat.le_of_ble_eq_true rfl⟩) hK hN hP hD hS hA rfl rfl hl.1 rfl (lv_room (Nat.le_of_ble_eq_true rfl)) dL_change_124 ⟨Nat.le_of_ble_eq_true rfl, Nat.le_of_ble_eq_true rfl⟩) hP hD hS hA rfl rfl rfl (fun H locs hP hD hS => ?_)
    refine lv_iload_n hx hb dL_change_127 rfl (lv_at hl 1 rfl) ?_
    refine lv_bipush (v := 31) hx hb dL_change_128 (by decide) ?_
    refine lv_idiv hx hb dL_change_130 (by decide) ?_
    refine lv_iconst (v := 5) hx hb dL_change_131 (by decide) ?_
    obtain ⟨r_30, hc_31, hE⟩ := bd1_el hE
    refine ki (X := []) (Y := (W_All cy aI aT adP adS adB adO adR adA aP aS aB aO aR aA aH ah imT imdP indP imdS imdB imdO imdR imdA indA mP nP mS mB mO mR mA nA mH hs)) (ws1 := (W_All cy aI aT adP adS adB adO adR adA aP aS aB aO aR aA aH ah imT imdP indP imdS imdB imdO imdR imdA indA mP nP mS mB mO mR mA nA mH hs)) (rS (X := []) (Y := (W_All cy aI aT adP adS adB adO adR adA aP aS aB aO aR aA aH ah imT imdP indP imdS imdB imdO imdR imdA indA mP nP mS mB mO mR mA nA mH hs)) (As := [.int (x2 / (31 : Int32)), .int (5 : Int32)]) (rest := [.int r_28, .ref (aI 0)]) hC (c_L_low l D cy (x2 / (31 : Int32)) (5 : Int32) r_30 hc_31) (cwS 2 hts gL_change_L_low rfl rfl rfl (by decide +kernel) ⟨Nat.le_of_ble_eq_true rfl, Nat.le_of_ble_eq_true rfl⟩) hK hN hP hD hS hA rfl rfl hl.1 rfl (lv_room (Nat.le_of_ble_eq_true rfl)) dL_change_132 ⟨Nat.le_of_ble_eq_true rfl, Nat.le_of_ble_eq_true rfl⟩) hP hD hS hA rfl rfl rfl (fun H locs hP hD hS => ?_)
    refine lv_iload_n hx hb dL_change_135 rfl (lv_at hl 1 rfl) ?_
    refine lv_sipush (v := 155) hx hb dL_change_136 (by decide) ?_
    refine lv_idiv hx hb dL_change_139 (by decide) ?_
    refine lv_bipush (v := 102) hx hb dL_change_140 (by decide) ?_
    obtain ⟨r_32, hc_33, hE⟩ := bd1_el hE
    refine ki (X := []) (Y := (W_All cy aI aT adP adS adB adO adR adA aP aS aB aO aR aA aH ah imT imdP indP imdS imdB imdO imdR imdA indA mP nP mS mB mO mR mA nA mH hs)) (ws1 := (W_All cy aI aT adP adS adB adO adR adA aP aS aB aO aR aA aH ah imT imdP indP imdS imdB imdO imdR imdA indA mP nP mS mB mO mR mA nA mH hs)) (rS (X := []) (Y := (W_All cy aI aT adP adS adB adO adR adA aP aS aB aO aR aA aH ah imT imdP indP imdS imdB imdO imdR imdA indA mP nP mS mB mO mR mA nA mH hs)) (As := [.int (x2 / (155 : Int32)), .int (102 : Int32)]) (rest := [.int r_30, .int r_28, .ref (aI 0)]) hC (c_L_low l D cy (x2 / (155 : Int32)) (102 : Int32) r_32 hc_33) (cwS 2 hts gL_change_L_low rfl rfl rfl (by decide +kernel) ⟨Nat.le_of_ble_eq_true rfl, Nat.le_of_ble_eq_true rfl⟩) hK hN hP hD hS hA rfl rfl hl.1 rfl (lv_room (Nat.le_of_ble_eq_true rfl)) dL_change_142 ⟨Nat.le_of_ble_eq_true rfl, Nat.le_of_ble_eq_true rfl⟩) hP hD hS hA rfl rfl rfl (fun H locs hP hD hS => ?_)
    obtain ⟨r_34, mS_35, mH_36, hs_37, hc_38, hE⟩ := bd4_el hE
    refine ki (X := []) (Y := []) (ws1 := (W_All cy aI aT adP adS adB adO adR adA aP aS aB aO aR aA aH ah imT imdP indP imdS imdB imdO imdR imdA indA mP nP mS_35 mB mO mR mA nA mH_36 hs_37)) (rH (X := []) (Y := []) (As := [.ref (aI 0), .int r_28, .int r_30, .int r_32]) (rest := []) hC (c_L_addSilo l hst D cy aI aT adP adS adB adO adR adA aP aS aB aO aR aA aH ah r_28 r_30 r_32 imT imdP indP imdS imdB imdO imdR imdA indA mP nP mS mB mO mR mA nA mH hs r_34 mS_35 mH_36 hs_37 hc_38) (vx_cwSW (hh := [(0, 7, 8, 15), (0, 7, 13, 18)]) 4 hts gL_change_L_addSilo rfl rfl rfl (by decide +kernel) ⟨Nat.le_of_ble_eq_true rfl, Nat.le_of_ble_eq_true rfl⟩) hK hN hX hP hD hS hA rfl rfl hl.1 rfl (lv_room (Nat.le_of_ble_eq_true rfl)) dL_change_145 ⟨Nat.le_of_ble_eq_true rfl, Nat.le_of_ble_eq_true rfl⟩) hP hD hS hA rfl (fst_All cy aI aT adP adS adB adO adR adA aP aS aB aO aR aA aH ah imT imdP indP imdS imdB imdO imdR imdA indA mP nP mS mB mO mR mA nA mH hs imT imdP indP imdS imdB imdO imdR imdA indA mP nP mS_35 mB mO mR mA nA mH_36 hs_37) rfl (fun H locs hP hD hS => ?_)
    have hE := Option.some.inj hE
    obtain ⟨q0, hE⟩ := Prod.mk.inj hE
    obtain ⟨q1, hE⟩ := Prod.mk.inj hE
    obtain ⟨q2, hE⟩ := Prod.mk.inj hE
    obtain ⟨q3, hE⟩ := Prod.mk.inj hE
    obtain ⟨q4, hE⟩ := Prod.mk.inj hE
    obtain ⟨q5, hE⟩ := Prod.mk.inj hE
    obtain ⟨q6, hE⟩ := Prod.mk.inj hE
    obtain ⟨q7, hE⟩ := Prod.mk.inj hE
    obtain ⟨q8, hE⟩ := Prod.mk.inj hE
    obtain ⟨q9, q10⟩ := Prod.mk.inj hE
    refine W.widen (k := 4) (n := 24) (Nat.le_of_ble_eq_true rfl) (Nat.le_of_ble_eq_true rfl) ?_
    exact ei hx hb hr hlocks hK hP hD hS q0 (by rw [q1, q2, q3, q4, q5, q6, q7, q8, q9, q10]) dL_change_148
  unfold f_L_change at hE
  refine lv_iload_n hx hb dL_change_0 rfl (lv_at hl 2 rfl) ?_
  refine lv_bipush (v := 6) hx hb dL_change_1 (by decide) ?_
  obtain ⟨r_39, hc_40, hE⟩ := bd1_el hE
  refine ki (X := []) (Y := (W_All cy aI aT adP adS adB adO adR adA aP aS aB aO aR aA aH ah imT imdP indP imdS imdB imdO imdR imdA indA imP inP imS imB imO imR imA inA imH ihs)) (ws1 := (W_All cy aI aT adP adS adB adO adR adA aP aS aB aO aR aA aH ah imT imdP indP imdS imdB imdO imdR imdA indA imP inP imS imB imO imR imA inA imH ihs)) (rS (X := []) (Y := (W_All cy aI aT adP adS adB adO adR adA aP aS aB aO aR aA aH ah imT imdP indP imdS imdB imdO imdR imdA indA imP inP imS imB imO imR imA inA imH ihs)) (As := [.int x2, .int (6 : Int32)]) (rest := []) hC (c_L_low l D cy x2 (6 : Int32) r_39 hc_40) (cwS 2 hts gL_change_L_low rfl rfl rfl (by decide +kernel) ⟨Nat.le_of_ble_eq_true rfl, Nat.le_of_ble_eq_true rfl⟩) hK hN hP hD hS hA rfl rfl hl.1 rfl (lv_room (Nat.le_of_ble_eq_true rfl)) dL_change_3 ⟨Nat.le_of_ble_eq_true rfl, Nat.le_of_ble_eq_true rfl⟩) hP hD hS hA rfl rfl rfl (fun H locs hP hD hS => ?_)
  refine lv_istore_n (lv' := [(3, .int r_39), (0, .ref (aI 0)), (1, .int x1), (2, .int x2)]) hx hb dL_change_6 rfl hl (by decide) rfl (fun ls hl => ?_)
  refine lv_iload_n hx hb dL_change_7 rfl (lv_at hl 3 rfl) ?_
  refine lv_bipush (v := 6) hx hb dL_change_8 (by decide) ?_
  refine lv_idiv hx hb dL_change_10 (by decide) ?_
  refine lv_bipush (v := 9) hx hb dL_change_11 (by decide) ?_
  obtain ⟨r_41, hc_42, hE⟩ := bd1_el hE
  refine ki (X := []) (Y := (W_All cy aI aT adP adS adB adO adR adA aP aS aB aO aR aA aH ah imT imdP indP imdS imdB imdO imdR imdA indA imP inP imS imB imO imR imA inA imH ihs)) (ws1 := (W_All cy aI aT adP adS adB adO adR adA aP aS aB aO aR aA aH ah imT imdP indP imdS imdB imdO imdR imdA indA imP inP imS imB imO imR imA inA imH ihs)) (rS (X := []) (Y := (W_All cy aI aT adP adS adB adO adR adA aP aS aB aO aR aA aH ah imT imdP indP imdS imdB imdO imdR imdA indA imP inP imS imB imO imR imA inA imH ihs)) (As := [.int (x2 / (6 : Int32)), .int (9 : Int32)]) (rest := []) hC (c_L_low l D cy (x2 / (6 : Int32)) (9 : Int32) r_41 hc_42) (cwS 2 hts gL_change_L_low rfl rfl rfl (by decide +kernel) ⟨Nat.le_of_ble_eq_true rfl, Nat.le_of_ble_eq_true rfl⟩) hK hN hP hD hS hA rfl rfl hl.1 rfl (lv_room (Nat.le_of_ble_eq_true rfl)) dL_change_13 ⟨Nat.le_of_ble_eq_true rfl, Nat.le_of_ble_eq_true rfl⟩) hP hD hS hA rfl rfl rfl (fun H locs hP hD hS => ?_)
  refine lv_istore (lv' := [(4, .int r_41), (3, .int r_39), (0, .ref (aI 0)), (1, .int x1), (2, .int x2)]) hx hb dL_change_16 hl (by decide) rfl (fun ls hl => ?_)
  refine lv_iload_n hx hb dL_change_18 rfl (lv_at hl 4 rfl) ?_
  refine lv_bipush (v := 54) hx hb dL_change_19 (by decide) ?_
  refine lv_idiv hx hb dL_change_21 (by decide) ?_
  refine lv_sipush (v := 10000) hx hb dL_change_22 (by decide) ?_
  obtain ⟨r_43, hc_44, hE⟩ := bd1_el hE
  refine ki (X := []) (Y := (W_All cy aI aT adP adS adB adO adR adA aP aS aB aO aR aA aH ah imT imdP indP imdS imdB imdO imdR imdA indA imP inP imS imB imO imR imA inA imH ihs)) (ws1 := (W_All cy aI aT adP adS adB adO adR adA aP aS aB aO aR aA aH ah imT imdP indP imdS imdB imdO imdR imdA indA imP inP imS imB imO imR imA inA imH ihs)) (rS (X := []) (Y := (W_All cy aI aT adP adS adB adO adR adA aP aS aB aO aR aA aH ah imT imdP indP imdS imdB imdO imdR imdA indA imP inP imS imB imO imR imA inA imH ihs)) (As := [.int (x2 / (54 : Int32)), .int (10000 : Int32)]) (rest := []) hC (c_L_low l D cy (x2 / (54 : Int32)) (10000 : Int32) r_43 hc_44) (cwS 2 hts gL_change_L_low rfl rfl rfl (by decide +kernel) ⟨Nat.le_of_ble_eq_true rfl, Nat.le_of_ble_eq_true rfl⟩) hK hN hP hD hS hA rfl rfl hl.1 rfl (lv_room (Nat.le_of_ble_eq_true rfl)) dL_change_25 ⟨Nat.le_of_ble_eq_true rfl, Nat.le_of_ble_eq_true rfl⟩) hP hD hS hA rfl rfl rfl (fun H locs hP hD hS => ?_)
  refine lv_istore (lv' := [(5, .int r_43), (4, .int r_41), (3, .int r_39), (0, .ref (aI 0)), (1, .int x1), (2, .int x2)]) hx hb dL_change_28 hl (by decide) rfl (fun ls hl => ?_)
  refine lv_iload_n hx hb dL_change_30 rfl (lv_at hl 4 rfl) ?_
  refine lv_bipush (v := 20) hx hb dL_change_31 (by decide) ?_
  obtain ⟨r_45, hc_46, hE⟩ := bd1_el hE
  refine ki (X := []) (Y := (W_All cy aI aT adP adS adB adO adR adA aP aS aB aO aR aA aH ah imT imdP indP imdS imdB imdO imdR imdA indA imP inP imS imB imO imR imA inA imH ihs)) (ws1 := (W_All cy aI aT adP adS adB adO adR adA aP aS aB aO aR aA aH ah imT imdP indP imdS imdB imdO imdR imdA indA imP inP imS imB imO imR imA inA imH ihs)) (rS (X := []) (Y := (W_All cy aI aT adP adS adB adO adR adA aP aS aB aO aR aA aH ah imT imdP indP imdS imdB imdO imdR imdA indA imP inP imS imB imO imR imA inA imH ihs)) (As := [.int x1, .int (20 : Int32)]) (rest := []) hC (c_L_low l D cy x1 (20 : Int32) r_45 hc_46) (cwS 2 hts gL_change_L_low rfl rfl rfl (by decide +kernel) ⟨Nat.le_of_ble_eq_true rfl, Nat.le_of_ble_eq_true rfl⟩) hK hN hP hD hS hA rfl rfl hl.1 rfl (lv_room (Nat.le_of_ble_eq_true rfl)) dL_change_33 ⟨Nat.le_of_ble_eq_true rfl, Nat.le_of_ble_eq_true rfl⟩) hP hD hS hA rfl rfl rfl (fun H locs hP hD hS => ?_)
  by_cases c_61_0 : r_45 = 0
  · replace hE := it_t hE c_61_0
    refine lv_tableIn (tgt := 120) hx hb dL_change_36 (by rw [c_61_0]; decide) (by rw [c_61_0]; decide) (off := 84) (by rw [c_61_0]; decide) (by decide) ?_
    refine W.widen (k := 0) (n := 0) (Nat.le_of_ble_eq_true rfl) (Nat.le_of_ble_eq_true rfl) ?_
    exact h120 x2 imP inP imS imB imO imR imA inA imH ihs _ _ _ hE hP hD hS (lv_sub hl [3, 5] rfl)
  · replace hE := it_f hE c_61_0
    by_cases c_61_1 : r_45 = 1
    · replace hE := it_t hE c_61_1
      refine lv_tableIn (tgt := 120) hx hb dL_change_36 (by rw [c_61_1]; decide) (by rw [c_61_1]; decide) (off := 84) (by rw [c_61_1]; decide) (by decide) ?_
      refine W.widen (k := 0) (n := 0) (Nat.le_of_ble_eq_true rfl) (Nat.le_of_ble_eq_true rfl) ?_
      exact h120 x2 imP inP imS imB imO imR imA inA imH ihs _ _ _ hE hP hD hS (lv_sub hl [3, 5] rfl)
    · replace hE := it_f hE c_61_1
      by_cases c_61_2 : r_45 = 2
      · replace hE := it_t hE c_61_2
        refine lv_tableIn (tgt := 149) hx hb dL_change_36 (by rw [c_61_2]; decide) (by rw [c_61_2]; decide) (off := 113) (by rw [c_61_2]; decide) (by decide) ?_
        refine lv_aload_n hx hb dL_change_149 rfl (lv_at hl 3 rfl) ?_
        refine lv_iload_n hx hb dL_change_150 rfl (lv_at hl 5 rfl) ?_
        refine lv_iconst (v := 3) hx hb dL_change_151 (by decide) ?_
        obtain ⟨r_138, hc_139, hE⟩ := bd1_el hE
        refine ki (X := []) (Y := (W_All cy aI aT adP adS adB adO adR adA aP aS aB aO aR aA aH ah imT imdP indP imdS imdB imdO imdR imdA indA imP inP imS imB imO imR imA inA imH ihs)) (ws1 := (W_All cy aI aT adP adS adB adO adR adA aP aS aB aO aR aA aH ah imT imdP indP imdS imdB imdO imdR imdA indA imP inP imS imB imO imR imA inA imH ihs)) (rS (X := []) (Y := (W_All cy aI aT adP adS adB adO adR adA aP aS aB aO aR aA aH ah imT imdP indP imdS imdB imdO imdR imdA indA imP inP imS imB imO imR imA inA imH ihs)) (As := [.int x2, .int (3 : Int32)]) (rest := [.ref (aI 0)]) hC (c_L_low l D cy x2 (3 : Int32) r_138 hc_139) (cwS 2 hts gL_change_L_low rfl rfl rfl (by decide +kernel) ⟨Nat.le_of_ble_eq_true rfl, Nat.le_of_ble_eq_true rfl⟩) hK hN hP hD hS hA rfl rfl hl.1 rfl (lv_room (Nat.le_of_ble_eq_true rfl)) dL_change_152 ⟨Nat.le_of_ble_eq_true rfl, Nat.le_of_ble_eq_true rfl⟩) hP hD hS hA rfl rfl rfl (fun H locs hP hD hS => ?_)
        refine lv_if_ne (tgt := 164) hx hb dL_change_155 (by decide) (fun c_140 => ?_) (fun c_140 => ?_)
        · replace hE := it_f hE c_140
          refine lv_iload_n hx hb dL_change_164 rfl (lv_at hl 5 rfl) ?_
          refine lv_sipush (v := 9000) hx hb dL_change_165 (by decide) ?_
          obtain ⟨r_141, hc_142, hE⟩ := bd1_el hE
          refine ki (X := []) (Y := (W_All cy aI aT adP adS adB adO adR adA aP aS aB aO aR aA aH ah imT imdP indP imdS imdB imdO imdR imdA indA imP inP imS imB imO imR imA inA imH ihs)) (ws1 := (W_All cy aI aT adP adS adB adO adR adA aP aS aB aO aR aA aH ah imT imdP indP imdS imdB imdO imdR imdA indA imP inP imS imB imO imR imA inA imH ihs)) (rS (X := []) (Y := (W_All cy aI aT adP adS adB adO adR adA aP aS aB aO aR aA aH ah imT imdP indP imdS imdB imdO imdR imdA indA imP inP imS imB imO imR imA inA imH ihs)) (As := [.int x2, .int (9000 : Int32)]) (rest := [.ref (aI 0)]) hC (c_L_low l D cy x2 (9000 : Int32) r_141 hc_142) (cwS 2 hts gL_change_L_low rfl rfl rfl (by decide +kernel) ⟨Nat.le_of_ble_eq_true rfl, Nat.le_of_ble_eq_true rfl⟩) hK hN hP hD hS hA rfl rfl hl.1 rfl (lv_room (Nat.le_of_ble_eq_true rfl)) dL_change_168 ⟨Nat.le_of_ble_eq_true rfl, Nat.le_of_ble_eq_true rfl⟩) hP hD hS hA rfl rfl rfl (fun H locs hP hD hS => ?_)
          refine W.widen (k := 0) (n := 0) (Nat.le_of_ble_eq_true rfl) (Nat.le_of_ble_eq_true rfl) ?_
          exact h171 r_141 imP inP imS imB imO imR imA inA imH ihs _ _ _ hE hP hD hS (lv_sub hl [] rfl)
        · replace hE := it_t hE c_140
          refine lv_sipush (v := 5000) hx hb dL_change_158 (by decide) ?_
          refine lv_goto (tgt := 171) hx hb dL_change_161 (by decide) ?_
          refine W.widen (k := 0) (n := 0) (Nat.le_of_ble_eq_true rfl) (Nat.le_of_ble_eq_true rfl) ?_
          exact h171 (5000 : Int32) imP inP imS imB imO imR imA inA imH ihs _ _ _ hE hP hD hS (lv_sub hl [] rfl)
      · replace hE := it_f hE c_61_2
        by_cases c_61_3 : r_45 = 3
        · replace hE := it_t hE c_61_3
          refine lv_tableIn (tgt := 175) hx hb dL_change_36 (by rw [c_61_3]; decide) (by rw [c_61_3]; decide) (off := 139) (by rw [c_61_3]; decide) (by decide) ?_
          refine W.widen (k := 0) (n := 0) (Nat.le_of_ble_eq_true rfl) (Nat.le_of_ble_eq_true rfl) ?_
          exact h175 x2 r_41 r_43 imP inP imS imB imO imR imA inA imH ihs _ _ _ hE hP hD hS (lv_sub hl [3, 5, 1, 0] rfl)
        · replace hE := it_f hE c_61_3
          by_cases c_61_4 : r_45 = 4
          · replace hE := it_t hE c_61_4
            refine lv_tableIn (tgt := 175) hx hb dL_change_36 (by rw [c_61_4]; decide) (by rw [c_61_4]; decide) (off := 139) (by rw [c_61_4]; decide) (by decide) ?_
            refine W.widen (k := 0) (n := 0) (Nat.le_of_ble_eq_true rfl) (Nat.le_of_ble_eq_true rfl) ?_
            exact h175 x2 r_41 r_43 imP inP imS imB imO imR imA inA imH ihs _ _ _ hE hP hD hS (lv_sub hl [3, 5, 1, 0] rfl)
          · replace hE := it_f hE c_61_4
            by_cases c_61_5 : r_45 = 5
            · replace hE := it_t hE c_61_5
              refine lv_tableIn (tgt := 175) hx hb dL_change_36 (by rw [c_61_5]; decide) (by rw [c_61_5]; decide) (off := 139) (by rw [c_61_5]; decide) (by decide) ?_
              refine W.widen (k := 0) (n := 0) (Nat.le_of_ble_eq_true rfl) (Nat.le_of_ble_eq_true rfl) ?_
              exact h175 x2 r_41 r_43 imP inP imS imB imO imR imA inA imH ihs _ _ _ hE hP hD hS (lv_sub hl [3, 5, 1, 0] rfl)
            · replace hE := it_f hE c_61_5
              by_cases c_61_6 : r_45 = 6
              · replace hE := it_t hE c_61_6
                refine lv_tableIn (tgt := 215) hx hb dL_change_36 (by rw [c_61_6]; decide) (by rw [c_61_6]; decide) (off := 179) (by rw [c_61_6]; decide) (by decide) ?_
                refine lv_aload_n hx hb dL_change_215 rfl (lv_at hl 3 rfl) ?_
                refine lv_iload_n hx hb dL_change_216 rfl (lv_at hl 5 rfl) ?_
                refine lv_bipush (v := 8) hx hb dL_change_217 (by decide) ?_
                obtain ⟨r_131, hc_132, hE⟩ := bd1_el hE
                refine ki (X := []) (Y := (W_All cy aI aT adP adS adB adO adR adA aP aS aB aO aR aA aH ah imT imdP indP imdS imdB imdO imdR imdA indA imP inP imS imB imO imR imA inA imH ihs)) (ws1 := (W_All cy aI aT adP adS adB adO adR adA aP aS aB aO aR aA aH ah imT imdP indP imdS imdB imdO imdR imdA indA imP inP imS imB imO imR imA inA imH ihs)) (rS (X := []) (Y := (W_All cy aI aT adP adS adB adO adR adA aP aS aB aO aR aA aH ah imT imdP indP imdS imdB imdO imdR imdA indA imP inP imS imB imO imR imA inA imH ihs)) (As := [.int x2, .int (8 : Int32)]) (rest := [.ref (aI 0)]) hC (c_L_low l D cy x2 (8 : Int32) r_131 hc_132) (cwS 2 hts gL_change_L_low rfl rfl rfl (by decide +kernel) ⟨Nat.le_of_ble_eq_true rfl, Nat.le_of_ble_eq_true rfl⟩) hK hN hP hD hS hA rfl rfl hl.1 rfl (lv_room (Nat.le_of_ble_eq_true rfl)) dL_change_219 ⟨Nat.le_of_ble_eq_true rfl, Nat.le_of_ble_eq_true rfl⟩) hP hD hS hA rfl rfl rfl (fun H locs hP hD hS => ?_)
                obtain ⟨r_133, mO_134, mH_135, hs_136, hc_137, hE⟩ := bd4_el hE
                refine ki (X := []) (Y := []) (ws1 := (W_All cy aI aT adP adS adB adO adR adA aP aS aB aO aR aA aH ah imT imdP indP imdS imdB imdO imdR imdA indA imP inP imS imB mO_134 imR imA inA mH_135 hs_136)) (rH (X := []) (Y := []) (As := [.ref (aI 0), .int r_131]) (rest := []) hC (c_L_cancel l hst D cy aI aT adP adS adB adO adR adA aP aS aB aO aR aA aH ah r_131 imT imdP indP imdS imdB imdO imdR imdA indA imP inP imS imB imO imR imA inA imH ihs r_133 mO_134 mH_135 hs_136 hc_137) (vx_cwSW (hh := [(0, 5, 6, 25), (0, 5, 10, 18)]) 2 hts gL_change_L_cancel rfl rfl rfl (by decide +kernel) ⟨Nat.le_of_ble_eq_true rfl, Nat.le_of_ble_eq_true rfl⟩) hK hN hX hP hD hS hA rfl rfl hl.1 rfl (lv_room (Nat.le_of_ble_eq_true rfl)) dL_change_222 ⟨Nat.le_of_ble_eq_true rfl, Nat.le_of_ble_eq_true rfl⟩) hP hD hS hA rfl (fst_All cy aI aT adP adS adB adO adR adA aP aS aB aO aR aA aH ah imT imdP indP imdS imdB imdO imdR imdA indA imP inP imS imB imO imR imA inA imH ihs imT imdP indP imdS imdB imdO imdR imdA indA imP inP imS imB mO_134 imR imA inA mH_135 hs_136) rfl (fun H locs hP hD hS => ?_)
                have hE := Option.some.inj hE
                obtain ⟨q0, hE⟩ := Prod.mk.inj hE
                obtain ⟨q1, hE⟩ := Prod.mk.inj hE
                obtain ⟨q2, hE⟩ := Prod.mk.inj hE
                obtain ⟨q3, hE⟩ := Prod.mk.inj hE
                obtain ⟨q4, hE⟩ := Prod.mk.inj hE
                obtain ⟨q5, hE⟩ := Prod.mk.inj hE
                obtain ⟨q6, hE⟩ := Prod.mk.inj hE
                obtain ⟨q7, hE⟩ := Prod.mk.inj hE
                obtain ⟨q8, hE⟩ := Prod.mk.inj hE
                obtain ⟨q9, q10⟩ := Prod.mk.inj hE
                refine W.widen (k := 4) (n := 24) (Nat.le_of_ble_eq_true rfl) (Nat.le_of_ble_eq_true rfl) ?_
                exact ei hx hb hr hlocks hK hP hD hS q0 (by rw [q1, q2, q3, q4, q5, q6, q7, q8, q9, q10]) dL_change_225
              · replace hE := it_f hE c_61_6
                by_cases c_61_7 : r_45 = 7
                · replace hE := it_t hE c_61_7
                  refine lv_tableIn (tgt := 226) hx hb dL_change_36 (by rw [c_61_7]; decide) (by rw [c_61_7]; decide) (off := 190) (by rw [c_61_7]; decide) (by decide) ?_
                  refine lv_aload_n hx hb dL_change_226 rfl (lv_at hl 3 rfl) ?_
                  refine lv_iload hx hb dL_change_227 (lv_at hl 1 rfl) ?_
                  refine lv_iload hx hb dL_change_229 (lv_at hl 0 rfl) ?_
                  refine lv_bipush (v := 20) hx hb dL_change_231 (by decide) ?_
                  refine lv_imul hx hb dL_change_233 ?_
                  obtain ⟨r_125, nP_126, mB_127, mH_128, hs_129, hc_130, hE⟩ := bd5_el hE
                  refine ki (X := []) (Y := []) (ws1 := (W_All cy aI aT adP adS adB adO adR adA aP aS aB aO aR aA aH ah imT imdP indP imdS imdB imdO imdR imdA indA imP nP_126 imS mB_127 imO imR imA inA mH_128 hs_129)) (rH (X := []) (Y := []) (As := [.ref (aI 0), .int r_41, .int (r_43 * (20 : Int32))]) (rest := []) hC (c_L_pay l hst D cy aI aT adP adS adB adO adR adA aP aS aB aO aR aA aH ah r_41 (r_43 * (20 : Int32)) imT imdP indP imdS imdB imdO imdR imdA indA imP inP imS imB imO imR imA inA imH ihs r_125 nP_126 mB_127 mH_128 hs_129 hc_130) (vx_cwSW (hh := [(0, 6, 7, 25), (0, 6, 11, 15), (0, 6, 15, 18)]) 3 hts gL_change_L_pay rfl rfl rfl (by decide +kernel) ⟨Nat.le_of_ble_eq_true rfl, Nat.le_of_ble_eq_true rfl⟩) hK hN hX hP hD hS hA rfl rfl hl.1 rfl (lv_room (Nat.le_of_ble_eq_true rfl)) dL_change_234 ⟨Nat.le_of_ble_eq_true rfl, Nat.le_of_ble_eq_true rfl⟩) hP hD hS hA rfl (fst_All cy aI aT adP adS adB adO adR adA aP aS aB aO aR aA aH ah imT imdP indP imdS imdB imdO imdR imdA indA imP inP imS imB imO imR imA inA imH ihs imT imdP indP imdS imdB imdO imdR imdA indA imP nP_126 imS mB_127 imO imR imA inA mH_128 hs_129) rfl (fun H locs hP hD hS => ?_)
                  have hE := Option.some.inj hE
                  obtain ⟨q0, hE⟩ := Prod.mk.inj hE
                  obtain ⟨q1, hE⟩ := Prod.mk.inj hE
                  obtain ⟨q2, hE⟩ := Prod.mk.inj hE
                  obtain ⟨q3, hE⟩ := Prod.mk.inj hE
                  obtain ⟨q4, hE⟩ := Prod.mk.inj hE
                  obtain ⟨q5, hE⟩ := Prod.mk.inj hE
                  obtain ⟨q6, hE⟩ := Prod.mk.inj hE
                  obtain ⟨q7, hE⟩ := Prod.mk.inj hE
                  obtain ⟨q8, hE⟩ := Prod.mk.inj hE
                  obtain ⟨q9, q10⟩ := Prod.mk.inj hE
                  refine W.widen (k := 4) (n := 24) (Nat.le_of_ble_eq_true rfl) (Nat.le_of_ble_eq_true rfl) ?_
                  exact ei hx hb hr hlocks hK hP hD hS q0 (by rw [q1, q2, q3, q4, q5, q6, q7, q8, q9, q10]) dL_change_237
                · replace hE := it_f hE c_61_7
                  by_cases c_61_8 : r_45 = 8
                  · replace hE := it_t hE c_61_8
                    refine lv_tableIn (tgt := 238) hx hb dL_change_36 (by rw [c_61_8]; decide) (by rw [c_61_8]; decide) (off := 202) (by rw [c_61_8]; decide) (by decide) ?_
                    refine lv_aload_n hx hb dL_change_238 rfl (lv_at hl 3 rfl) ?_
                    refine lv_iload hx hb dL_change_239 (lv_at hl 1 rfl) ?_
                    refine lv_iload hx hb dL_change_241 (lv_at hl 0 rfl) ?_
                    refine lv_iconst (v := 3) hx hb dL_change_243 (by decide) ?_
                    refine lv_imul hx hb dL_change_244 ?_
                    obtain ⟨r_120, mB_121, mH_122, hs_123, hc_124, hE⟩ := bd4_el hE
                    refine ki (X := []) (Y := []) (ws1 := (W_All cy aI aT adP adS adB adO adR adA aP aS aB aO aR aA aH ah imT imdP indP imdS imdB imdO imdR imdA indA imP inP imS mB_121 imO imR imA inA mH_122 hs_123)) (rH (X := []) (Y := []) (As := [.ref (aI 0), .int r_41, .int (r_43 * (3 : Int32))]) (rest := []) hC (c_L_setCatch l hst D cy aI aT adP adS adB adO adR adA aP aS aB aO aR aA aH ah r_41 (r_43 * (3 : Int32)) imT imdP indP imdS imdB imdO imdR imdA indA imP inP imS imB imO imR imA inA imH ihs r_120 mB_121 mH_122 hs_123 hc_124) (vx_cwSW (hh := [(0, 6, 7, 25), (0, 6, 11, 15)]) 3 hts gL_change_L_setCatch rfl rfl rfl (by decide +kernel) ⟨Nat.le_of_ble_eq_true rfl, Nat.le_of_ble_eq_true rfl⟩) hK hN hX hP hD hS hA rfl rfl hl.1 rfl (lv_room (Nat.le_of_ble_eq_true rfl)) dL_change_245 ⟨Nat.le_of_ble_eq_true rfl, Nat.le_of_ble_eq_true rfl⟩) hP hD hS hA rfl (fst_All cy aI aT adP adS adB adO adR adA aP aS aB aO aR aA aH ah imT imdP indP imdS imdB imdO imdR imdA indA imP inP imS imB imO imR imA inA imH ihs imT imdP indP imdS imdB imdO imdR imdA indA imP inP imS mB_121 imO imR imA inA mH_122 hs_123) rfl (fun H locs hP hD hS => ?_)
                    have hE := Option.some.inj hE
                    obtain ⟨q0, hE⟩ := Prod.mk.inj hE
                    obtain ⟨q1, hE⟩ := Prod.mk.inj hE
                    obtain ⟨q2, hE⟩ := Prod.mk.inj hE
                    obtain ⟨q3, hE⟩ := Prod.mk.inj hE
                    obtain ⟨q4, hE⟩ := Prod.mk.inj hE
                    obtain ⟨q5, hE⟩ := Prod.mk.inj hE
                    obtain ⟨q6, hE⟩ := Prod.mk.inj hE
                    obtain ⟨q7, hE⟩ := Prod.mk.inj hE
                    obtain ⟨q8, hE⟩ := Prod.mk.inj hE
                    obtain ⟨q9, q10⟩ := Prod.mk.inj hE
                    refine W.widen (k := 4) (n := 24) (Nat.le_of_ble_eq_true rfl) (Nat.le_of_ble_eq_true rfl) ?_
                    exact ei hx hb hr hlocks hK hP hD hS q0 (by rw [q1, q2, q3, q4, q5, q6, q7, q8, q9, q10]) dL_change_248
                  · replace hE := it_f hE c_61_8
                    by_cases c_61_9 : r_45 = 9
                    · replace hE := it_t hE c_61_9
                      refine lv_tableIn (tgt := 249) hx hb dL_change_36 (by rw [c_61_9]; decide) (by rw [c_61_9]; decide) (off := 213) (by rw [c_61_9]; decide) (by decide) ?_
                      refine lv_aload_n hx hb dL_change_249 rfl (lv_at hl 3 rfl) ?_
                      refine lv_iload_n hx hb dL_change_250 rfl (lv_at hl 2 rfl) ?_
                      refine lv_iload hx hb dL_change_251 (lv_at hl 0 rfl) ?_
                      refine lv_iconst (v := 5) hx hb dL_change_253 (by decide) ?_
                      obtain ⟨r_113, hc_114, hE⟩ := bd1_el hE
                      refine ki (X := []) (Y := (W_All cy aI aT adP adS adB adO adR adA aP aS aB aO aR aA aH ah imT imdP indP imdS imdB imdO imdR imdA indA imP inP imS imB imO imR imA inA imH ihs)) (ws1 := (W_All cy aI aT adP adS adB adO adR adA aP aS aB aO aR aA aH ah imT imdP indP imdS imdB imdO imdR imdA indA imP inP imS imB imO imR imA inA imH ihs)) (rS (X := []) (Y := (W_All cy aI aT adP adS adB adO adR adA aP aS aB aO aR aA aH ah imT imdP indP imdS imdB imdO imdR imdA indA imP inP imS imB imO imR imA inA imH ihs)) (As := [.int r_43, .int (5 : Int32)]) (rest := [.int r_39, .ref (aI 0)]) hC (c_L_low l D cy r_43 (5 : Int32) r_113 hc_114) (cwS 2 hts gL_change_L_low rfl rfl rfl (by decide +kernel) ⟨Nat.le_of_ble_eq_true rfl, Nat.le_of_ble_eq_true rfl⟩) hK hN hP hD hS hA rfl rfl hl.1 rfl (lv_room (Nat.le_of_ble_eq_true rfl)) dL_change_254 ⟨Nat.le_of_ble_eq_true rfl, Nat.le_of_ble_eq_true rfl⟩) hP hD hS hA rfl rfl rfl (fun H locs hP hD hS => ?_)
                      obtain ⟨r_115, mS_116, mH_117, hs_118, hc_119, hE⟩ := bd4_el hE
                      refine ki (X := []) (Y := []) (ws1 := (W_All cy aI aT adP adS adB adO adR adA aP aS aB aO aR aA aH ah imT imdP indP imdS imdB imdO imdR imdA indA imP inP mS_116 imB imO imR imA inA mH_117 hs_118)) (rH (X := []) (Y := []) (As := [.ref (aI 0), .int r_39, .int r_113]) (rest := []) hC (c_L_setRule l hst D cy aI aT adP adS adB adO adR adA aP aS aB aO aR aA aH ah r_39 r_113 imT imdP indP imdS imdB imdO imdR imdA indA imP inP imS imB imO imR imA inA imH ihs r_115 mS_116 mH_117 hs_118 hc_119) (vx_cwSW (hh := [(0, 6, 7, 25), (0, 6, 11, 15)]) 3 hts gL_change_L_setRule rfl rfl rfl (by decide +kernel) ⟨Nat.le_of_ble_eq_true rfl, Nat.le_of_ble_eq_true rfl⟩) hK hN hX hP hD hS hA rfl rfl hl.1 rfl (lv_room (Nat.le_of_ble_eq_true rfl)) dL_change_257 ⟨Nat.le_of_ble_eq_true rfl, Nat.le_of_ble_eq_true rfl⟩) hP hD hS hA rfl (fst_All cy aI aT adP adS adB adO adR adA aP aS aB aO aR aA aH ah imT imdP indP imdS imdB imdO imdR imdA indA imP inP imS imB imO imR imA inA imH ihs imT imdP indP imdS imdB imdO imdR imdA indA imP inP mS_116 imB imO imR imA inA mH_117 hs_118) rfl (fun H locs hP hD hS => ?_)
                      have hE := Option.some.inj hE
                      obtain ⟨q0, hE⟩ := Prod.mk.inj hE
                      obtain ⟨q1, hE⟩ := Prod.mk.inj hE
                      obtain ⟨q2, hE⟩ := Prod.mk.inj hE
                      obtain ⟨q3, hE⟩ := Prod.mk.inj hE
                      obtain ⟨q4, hE⟩ := Prod.mk.inj hE
                      obtain ⟨q5, hE⟩ := Prod.mk.inj hE
                      obtain ⟨q6, hE⟩ := Prod.mk.inj hE
                      obtain ⟨q7, hE⟩ := Prod.mk.inj hE
                      obtain ⟨q8, hE⟩ := Prod.mk.inj hE
                      obtain ⟨q9, q10⟩ := Prod.mk.inj hE
                      refine W.widen (k := 4) (n := 24) (Nat.le_of_ble_eq_true rfl) (Nat.le_of_ble_eq_true rfl) ?_
                      exact ei hx hb hr hlocks hK hP hD hS q0 (by rw [q1, q2, q3, q4, q5, q6, q7, q8, q9, q10]) dL_change_260
                    · replace hE := it_f hE c_61_9
                      by_cases c_61_10 : r_45 = 10
                      · replace hE := it_t hE c_61_10
                        refine lv_tableIn (tgt := 261) hx hb dL_change_36 (by rw [c_61_10]; decide) (by rw [c_61_10]; decide) (off := 225) (by rw [c_61_10]; decide) (by decide) ?_
                        refine lv_aload_n hx hb dL_change_261 rfl (lv_at hl 3 rfl) ?_
                        refine lv_iload_n hx hb dL_change_262 rfl (lv_at hl 2 rfl) ?_
                        refine lv_iload hx hb dL_change_263 (lv_at hl 0 rfl) ?_
                        refine lv_bipush (v := 102) hx hb dL_change_265 (by decide) ?_
                        obtain ⟨r_106, hc_107, hE⟩ := bd1_el hE
                        refine ki (X := []) (Y := (W_All cy aI aT adP adS adB adO adR adA aP aS aB aO aR aA aH ah imT imdP indP imdS imdB imdO imdR imdA indA imP inP imS imB imO imR imA inA imH ihs)) (ws1 := (W_All cy aI aT adP adS adB adO adR adA aP aS aB aO aR aA aH ah imT imdP indP imdS imdB imdO imdR imdA indA imP inP imS imB imO imR imA inA imH ihs)) (rS (X := []) (Y := (W_All cy aI aT adP adS adB adO adR adA aP aS aB aO aR aA aH ah imT imdP indP imdS imdB imdO imdR imdA indA imP inP imS imB imO imR imA inA imH ihs)) (As := [.int r_43, .int (102 : Int32)]) (rest := [.int r_39, .ref (aI 0)]) hC (c_L_low l D cy r_43 (102 : Int32) r_106 hc_107) (cwS 2 hts gL_change_L_low rfl rfl rfl (by decide +kernel) ⟨Nat.le_of_ble_eq_true rfl, Nat.le_of_ble_eq_true rfl⟩) hK hN hP hD hS hA rfl rfl hl.1 rfl (lv_room (Nat.le_of_ble_eq_true rfl)) dL_change_267 ⟨Nat.le_of_ble_eq_true rfl, Nat.le_of_ble_eq_true rfl⟩) hP hD hS hA rfl rfl rfl (fun H locs hP hD hS => ?_)
                        obtain ⟨r_108, mS_109, mH_110, hs_111, hc_112, hE⟩ := bd4_el hE
                        refine ki (X := []) (Y := []) (ws1 := (W_All cy aI aT adP adS adB adO adR adA aP aS aB aO aR aA aH ah imT imdP indP imdS imdB imdO imdR imdA indA imP inP mS_109 imB imO imR imA inA mH_110 hs_111)) (rH (X := []) (Y := []) (As := [.ref (aI 0), .int r_39, .int r_106]) (rest := []) hC (c_L_setStrength l hst D cy aI aT adP adS adB adO adR adA aP aS aB aO aR aA aH ah r_39 r_106 imT imdP indP imdS imdB imdO imdR imdA indA imP inP imS imB imO imR imA inA imH ihs r_108 mS_109 mH_110 hs_111 hc_112) (vx_cwSW (hh := [(0, 6, 7, 25), (0, 6, 11, 15)]) 3 hts gL_change_L_setStrength rfl rfl rfl (by decide +kernel) ⟨Nat.le_of_ble_eq_true rfl, Nat.le_of_ble_eq_true rfl⟩) hK hN hX hP hD hS hA rfl rfl hl.1 rfl (lv_room (Nat.le_of_ble_eq_true rfl)) dL_change_270 ⟨Nat.le_of_ble_eq_true rfl, Nat.le_of_ble_eq_true rfl⟩) hP hD hS hA rfl (fst_All cy aI aT adP adS adB adO adR adA aP aS aB aO aR aA aH ah imT imdP indP imdS imdB imdO imdR imdA indA imP inP imS imB imO imR imA inA imH ihs imT imdP indP imdS imdB imdO imdR imdA indA imP inP mS_109 imB imO imR imA inA mH_110 hs_111) rfl (fun H locs hP hD hS => ?_)
                        have hE := Option.some.inj hE
                        obtain ⟨q0, hE⟩ := Prod.mk.inj hE
                        obtain ⟨q1, hE⟩ := Prod.mk.inj hE
                        obtain ⟨q2, hE⟩ := Prod.mk.inj hE
                        obtain ⟨q3, hE⟩ := Prod.mk.inj hE
                        obtain ⟨q4, hE⟩ := Prod.mk.inj hE
                        obtain ⟨q5, hE⟩ := Prod.mk.inj hE
                        obtain ⟨q6, hE⟩ := Prod.mk.inj hE
                        obtain ⟨q7, hE⟩ := Prod.mk.inj hE
                        obtain ⟨q8, hE⟩ := Prod.mk.inj hE
                        obtain ⟨q9, q10⟩ := Prod.mk.inj hE
                        refine W.widen (k := 4) (n := 24) (Nat.le_of_ble_eq_true rfl) (Nat.le_of_ble_eq_true rfl) ?_
                        exact ei hx hb hr hlocks hK hP hD hS q0 (by rw [q1, q2, q3, q4, q5, q6, q7, q8, q9, q10]) dL_change_273
                      · replace hE := it_f hE c_61_10
                        by_cases c_61_11 : r_45 = 11
                        · replace hE := it_t hE c_61_11
                          refine lv_tableIn (tgt := 274) hx hb dL_change_36 (by rw [c_61_11]; decide) (by rw [c_61_11]; decide) (off := 238) (by rw [c_61_11]; decide) (by decide) ?_
                          refine lv_aload_n hx hb dL_change_274 rfl (lv_at hl 3 rfl) ?_
                          refine lv_iload hx hb dL_change_275 (lv_at hl 0 rfl) ?_
                          refine lv_bipush (v := 25) hx hb dL_change_277 (by decide) ?_
                          obtain ⟨r_97, hc_98, hE⟩ := bd1_el hE
                          refine ki (X := []) (Y := (W_All cy aI aT adP adS adB adO adR adA aP aS aB aO aR aA aH ah imT imdP indP imdS imdB imdO imdR imdA indA imP inP imS imB imO imR imA inA imH ihs)) (ws1 := (W_All cy aI aT adP adS adB adO adR adA aP aS aB aO aR aA aH ah imT imdP indP imdS imdB imdO imdR imdA indA imP inP imS imB imO imR imA inA imH ihs)) (rS (X := []) (Y := (W_All cy aI aT adP adS adB adO adR adA aP aS aB aO aR aA aH ah imT imdP indP imdS imdB imdO imdR imdA indA imP inP imS imB imO imR imA inA imH ihs)) (As := [.int r_43, .int (25 : Int32)]) (rest := [.ref (aI 0)]) hC (c_L_low l D cy r_43 (25 : Int32) r_97 hc_98) (cwS 2 hts gL_change_L_low rfl rfl rfl (by decide +kernel) ⟨Nat.le_of_ble_eq_true rfl, Nat.le_of_ble_eq_true rfl⟩) hK hN hP hD hS hA rfl rfl hl.1 rfl (lv_room (Nat.le_of_ble_eq_true rfl)) dL_change_279 ⟨Nat.le_of_ble_eq_true rfl, Nat.le_of_ble_eq_true rfl⟩) hP hD hS hA rfl rfl rfl (fun H locs hP hD hS => ?_)
                          refine lv_iload_n hx hb dL_change_282 rfl (lv_at hl 5 rfl) ?_
                          refine lv_bipush (v := 7) hx hb dL_change_283 (by decide) ?_
                          refine lv_idiv hx hb dL_change_285 (by decide) ?_
                          refine lv_bipush (v := 67) hx hb dL_change_286 (by decide) ?_
                          obtain ⟨r_99, hc_100, hE⟩ := bd1_el hE
                          refine ki (X := []) (Y := (W_All cy aI aT adP adS adB adO adR adA aP aS aB aO aR aA aH ah imT imdP indP imdS imdB imdO imdR imdA indA imP inP imS imB imO imR imA inA imH ihs)) (ws1 := (W_All cy aI aT adP adS adB adO adR adA aP aS aB aO aR aA aH ah imT imdP indP imdS imdB imdO imdR imdA indA imP inP imS imB imO imR imA inA imH ihs)) (rS (X := []) (Y := (W_All cy aI aT adP adS adB adO adR adA aP aS aB aO aR aA aH ah imT imdP indP imdS imdB imdO imdR imdA indA imP inP imS imB imO imR imA inA imH ihs)) (As := [.int (x2 / (7 : Int32)), .int (67 : Int32)]) (rest := [.int r_97, .ref (aI 0)]) hC (c_L_low l D cy (x2 / (7 : Int32)) (67 : Int32) r_99 hc_100) (cwS 2 hts gL_change_L_low rfl rfl rfl (by decide +kernel) ⟨Nat.le_of_ble_eq_true rfl, Nat.le_of_ble_eq_true rfl⟩) hK hN hP hD hS hA rfl rfl hl.1 rfl (lv_room (Nat.le_of_ble_eq_true rfl)) dL_change_288 ⟨Nat.le_of_ble_eq_true rfl, Nat.le_of_ble_eq_true rfl⟩) hP hD hS hA rfl rfl rfl (fun H locs hP hD hS => ?_)
                          refine lv_bipush (v := 21) hx hb dL_change_291 (by decide) ?_
                          refine lv_isub hx hb dL_change_293 ?_
                          obtain ⟨r_101, mP_102, mH_103, hs_104, hc_105, hE⟩ := bd4_el hE
                          refine ki (X := []) (Y := []) (ws1 := (W_All cy aI aT adP adS adB adO adR adA aP aS aB aO aR aA aH ah imT imdP indP imdS imdB imdO imdR imdA indA mP_102 inP imS imB imO imR imA inA mH_103 hs_104)) (rH (X := []) (Y := []) (As := [.ref (aI 0), .int r_97, .int (r_99 - (21 : Int32))]) (rest := []) hC (c_L_setTemperature l hst D cy aI aT adP adS adB adO adR adA aP aS aB aO aR aA aH ah r_97 (r_99 - (21 : Int32)) imT imdP indP imdS imdB imdO imdR imdA indA imP inP imS imB imO imR imA inA imH ihs r_101 mP_102 mH_103 hs_104 hc_105) (vx_cwSW (hh := [(0, 6, 7, 25), (0, 6, 11, 15)]) 3 hts gL_change_L_setTemperature rfl rfl rfl (by decide +kernel) ⟨Nat.le_of_ble_eq_true rfl, Nat.le_of_ble_eq_true rfl⟩) hK hN hX hP hD hS hA rfl rfl hl.1 rfl (lv_room (Nat.le_of_ble_eq_true rfl)) dL_change_294 ⟨Nat.le_of_ble_eq_true rfl, Nat.le_of_ble_eq_true rfl⟩) hP hD hS hA rfl (fst_All cy aI aT adP adS adB adO adR adA aP aS aB aO aR aA aH ah imT imdP indP imdS imdB imdO imdR imdA indA imP inP imS imB imO imR imA inA imH ihs imT imdP indP imdS imdB imdO imdR imdA indA mP_102 inP imS imB imO imR imA inA mH_103 hs_104) rfl (fun H locs hP hD hS => ?_)
                          have hE := Option.some.inj hE
                          obtain ⟨q0, hE⟩ := Prod.mk.inj hE
                          obtain ⟨q1, hE⟩ := Prod.mk.inj hE
                          obtain ⟨q2, hE⟩ := Prod.mk.inj hE
                          obtain ⟨q3, hE⟩ := Prod.mk.inj hE
                          obtain ⟨q4, hE⟩ := Prod.mk.inj hE
                          obtain ⟨q5, hE⟩ := Prod.mk.inj hE
                          obtain ⟨q6, hE⟩ := Prod.mk.inj hE
                          obtain ⟨q7, hE⟩ := Prod.mk.inj hE
                          obtain ⟨q8, hE⟩ := Prod.mk.inj hE
                          obtain ⟨q9, q10⟩ := Prod.mk.inj hE
                          refine W.widen (k := 4) (n := 24) (Nat.le_of_ble_eq_true rfl) (Nat.le_of_ble_eq_true rfl) ?_
                          exact ei hx hb hr hlocks hK hP hD hS q0 (by rw [q1, q2, q3, q4, q5, q6, q7, q8, q9, q10]) dL_change_297
                        · replace hE := it_f hE c_61_11
                          by_cases c_61_12 : r_45 = 12
                          · replace hE := it_t hE c_61_12
                            refine lv_tableIn (tgt := 298) hx hb dL_change_36 (by rw [c_61_12]; decide) (by rw [c_61_12]; decide) (off := 262) (by rw [c_61_12]; decide) (by decide) ?_
                            refine lv_aload_n hx hb dL_change_298 rfl (lv_at hl 3 rfl) ?_
                            refine lv_iconst (v := 0) hx hb dL_change_299 (by decide) ?_
                            refine lv_iload hx hb dL_change_300 (lv_at hl 0 rfl) ?_
                            refine lv_sipush (v := 202) hx hb dL_change_302 (by decide) ?_
                            obtain ⟨r_90, hc_91, hE⟩ := bd1_el hE
                            refine ki (X := []) (Y := (W_All cy aI aT adP adS adB adO adR adA aP aS aB aO aR aA aH ah imT imdP indP imdS imdB imdO imdR imdA indA imP inP imS imB imO imR imA inA imH ihs)) (ws1 := (W_All cy aI aT adP adS adB adO adR adA aP aS aB aO aR aA aH ah imT imdP indP imdS imdB imdO imdR imdA indA imP inP imS imB imO imR imA inA imH ihs)) (rS (X := []) (Y := (W_All cy aI aT adP adS adB adO adR adA aP aS aB aO aR aA aH ah imT imdP indP imdS imdB imdO imdR imdA indA imP inP imS imB imO imR imA inA imH ihs)) (As := [.int r_43, .int (202 : Int32)]) (rest := [.int (0 : Int32), .ref (aI 0)]) hC (c_L_low l D cy r_43 (202 : Int32) r_90 hc_91) (cwS 2 hts gL_change_L_low rfl rfl rfl (by decide +kernel) ⟨Nat.le_of_ble_eq_true rfl, Nat.le_of_ble_eq_true rfl⟩) hK hN hP hD hS hA rfl rfl hl.1 rfl (lv_room (Nat.le_of_ble_eq_true rfl)) dL_change_305 ⟨Nat.le_of_ble_eq_true rfl, Nat.le_of_ble_eq_true rfl⟩) hP hD hS hA rfl rfl rfl (fun H locs hP hD hS => ?_)
                            obtain ⟨r_92, mP_93, mH_94, hs_95, hc_96, hE⟩ := bd4_el hE
                            refine ki (X := []) (Y := []) (ws1 := (W_All cy aI aT adP adS adB adO adR adA aP aS aB aO aR aA aH ah imT imdP indP imdS imdB imdO imdR imdA indA mP_93 inP imS imB imO imR imA inA mH_94 hs_95)) (rH (X := []) (Y := []) (As := [.ref (aI 0), .int (0 : Int32), .int r_90]) (rest := []) hC (c_L_set l hst D cy aI aT adP adS adB adO adR adA aP aS aB aO aR aA aH ah (0 : Int32) r_90 imT imdP indP imdS imdB imdO imdR imdA indA imP inP imS imB imO imR imA inA imH ihs r_92 mP_93 mH_94 hs_95 hc_96) (vx_cwSW (hh := [(0, 6, 7, 25), (0, 6, 11, 15)]) 3 hts gL_change_L_set rfl rfl rfl (by decide +kernel) ⟨Nat.le_of_ble_eq_true rfl, Nat.le_of_ble_eq_true rfl⟩) hK hN hX hP hD hS hA rfl rfl hl.1 rfl (lv_room (Nat.le_of_ble_eq_true rfl)) dL_change_308 ⟨Nat.le_of_ble_eq_true rfl, Nat.le_of_ble_eq_true rfl⟩) hP hD hS hA rfl (fst_All cy aI aT adP adS adB adO adR adA aP aS aB aO aR aA aH ah imT imdP indP imdS imdB imdO imdR imdA indA imP inP imS imB imO imR imA inA imH ihs imT imdP indP imdS imdB imdO imdR imdA indA mP_93 inP imS imB imO imR imA inA mH_94 hs_95) rfl (fun H locs hP hD hS => ?_)
                            have hE := Option.some.inj hE
                            obtain ⟨q0, hE⟩ := Prod.mk.inj hE
                            obtain ⟨q1, hE⟩ := Prod.mk.inj hE
                            obtain ⟨q2, hE⟩ := Prod.mk.inj hE
                            obtain ⟨q3, hE⟩ := Prod.mk.inj hE
                            obtain ⟨q4, hE⟩ := Prod.mk.inj hE
                            obtain ⟨q5, hE⟩ := Prod.mk.inj hE
                            obtain ⟨q6, hE⟩ := Prod.mk.inj hE
                            obtain ⟨q7, hE⟩ := Prod.mk.inj hE
                            obtain ⟨q8, hE⟩ := Prod.mk.inj hE
                            obtain ⟨q9, q10⟩ := Prod.mk.inj hE
                            refine W.widen (k := 4) (n := 24) (Nat.le_of_ble_eq_true rfl) (Nat.le_of_ble_eq_true rfl) ?_
                            exact ei hx hb hr hlocks hK hP hD hS q0 (by rw [q1, q2, q3, q4, q5, q6, q7, q8, q9, q10]) dL_change_311
                          · replace hE := it_f hE c_61_12
                            by_cases c_61_13 : r_45 = 13
                            · replace hE := it_t hE c_61_13
                              refine lv_tableIn (tgt := 312) hx hb dL_change_36 (by rw [c_61_13]; decide) (by rw [c_61_13]; decide) (off := 276) (by rw [c_61_13]; decide) (by decide) ?_
                              refine lv_aload_n hx hb dL_change_312 rfl (lv_at hl 3 rfl) ?_
                              refine lv_iload_n hx hb dL_change_313 rfl (lv_at hl 5 rfl) ?_
                              refine lv_iconst (v := 3) hx hb dL_change_314 (by decide) ?_
                              obtain ⟨r_87, hc_88, hE⟩ := bd1_el hE
                              refine ki (X := []) (Y := (W_All cy aI aT adP adS adB adO adR adA aP aS aB aO aR aA aH ah imT imdP indP imdS imdB imdO imdR imdA indA imP inP imS imB imO imR imA inA imH ihs)) (ws1 := (W_All cy aI aT adP adS adB adO adR adA aP aS aB aO aR aA aH ah imT imdP indP imdS imdB imdO imdR imdA indA imP inP imS imB imO imR imA inA imH ihs)) (rS (X := []) (Y := (W_All cy aI aT adP adS adB adO adR adA aP aS aB aO aR aA aH ah imT imdP indP imdS imdB imdO imdR imdA indA imP inP imS imB imO imR imA inA imH ihs)) (As := [.int x2, .int (3 : Int32)]) (rest := [.ref (aI 0)]) hC (c_L_low l D cy x2 (3 : Int32) r_87 hc_88) (cwS 2 hts gL_change_L_low rfl rfl rfl (by decide +kernel) ⟨Nat.le_of_ble_eq_true rfl, Nat.le_of_ble_eq_true rfl⟩) hK hN hP hD hS hA rfl rfl hl.1 rfl (lv_room (Nat.le_of_ble_eq_true rfl)) dL_change_315 ⟨Nat.le_of_ble_eq_true rfl, Nat.le_of_ble_eq_true rfl⟩) hP hD hS hA rfl rfl rfl (fun H locs hP hD hS => ?_)
                              refine lv_if_ne (tgt := 325) hx hb dL_change_318 (by decide) (fun c_89 => ?_) (fun c_89 => ?_)
                              · replace hE := it_f hE c_89
                                refine lv_iconst (v := 1) hx hb dL_change_325 (by decide) ?_
                                refine W.widen (k := 0) (n := 0) (Nat.le_of_ble_eq_true rfl) (Nat.le_of_ble_eq_true rfl) ?_
                                exact h326 r_43 (1 : Int32) imP inP imS imB imO imR imA inA imH ihs _ _ _ hE hP hD hS (lv_sub hl [0] rfl)
                              · replace hE := it_t hE c_89
                                refine lv_iconst (v := 2) hx hb dL_change_321 (by decide) ?_
                                refine lv_goto (tgt := 326) hx hb dL_change_322 (by decide) ?_
                                refine W.widen (k := 0) (n := 0) (Nat.le_of_ble_eq_true rfl) (Nat.le_of_ble_eq_true rfl) ?_
                                exact h326 r_43 (2 : Int32) imP inP imS imB imO imR imA inA imH ihs _ _ _ hE hP hD hS (lv_sub hl [0] rfl)
                            · replace hE := it_f hE c_61_13
                              by_cases c_61_14 : r_45 = 14
                              · replace hE := it_t hE c_61_14
                                refine lv_tableIn (tgt := 337) hx hb dL_change_36 (by rw [c_61_14]; decide) (by rw [c_61_14]; decide) (off := 301) (by rw [c_61_14]; decide) (by decide) ?_
                                refine lv_aload_n hx hb dL_change_337 rfl (lv_at hl 3 rfl) ?_
                                refine lv_iconst (v := 3) hx hb dL_change_338 (by decide) ?_
                                refine lv_iload_n hx hb dL_change_339 rfl (lv_at hl 5 rfl) ?_
                                refine lv_bipush (v := 6) hx hb dL_change_340 (by decide) ?_
                                obtain ⟨r_80, hc_81, hE⟩ := bd1_el hE
                                refine ki (X := []) (Y := (W_All cy aI aT adP adS adB adO adR adA aP aS aB aO aR aA aH ah imT imdP indP imdS imdB imdO imdR imdA indA imP inP imS imB imO imR imA inA imH ihs)) (ws1 := (W_All cy aI aT adP adS adB adO adR adA aP aS aB aO aR aA aH ah imT imdP indP imdS imdB imdO imdR imdA indA imP inP imS imB imO imR imA inA imH ihs)) (rS (X := []) (Y := (W_All cy aI aT adP adS adB adO adR adA aP aS aB aO aR aA aH ah imT imdP indP imdS imdB imdO imdR imdA indA imP inP imS imB imO imR imA inA imH ihs)) (As := [.int x2, .int (6 : Int32)]) (rest := [.int (3 : Int32), .ref (aI 0)]) hC (c_L_low l D cy x2 (6 : Int32) r_80 hc_81) (cwS 2 hts gL_change_L_low rfl rfl rfl (by decide +kernel) ⟨Nat.le_of_ble_eq_true rfl, Nat.le_of_ble_eq_true rfl⟩) hK hN hP hD hS hA rfl rfl hl.1 rfl (lv_room (Nat.le_of_ble_eq_true rfl)) dL_change_342 ⟨Nat.le_of_ble_eq_true rfl, Nat.le_of_ble_eq_true rfl⟩) hP hD hS hA rfl rfl rfl (fun H locs hP hD hS => ?_)
                                refine lv_iadd hx hb dL_change_345 ?_
                                refine lv_iload hx hb dL_change_346 (lv_at hl 0 rfl) ?_
                                refine lv_iconst (v := 3) hx hb dL_change_348 (by decide) ?_
                                obtain ⟨r_82, hc_83, hE⟩ := bd1_el hE
                                refine ki (X := []) (Y := (W_All cy aI aT adP adS adB adO adR adA aP aS aB aO aR aA aH ah imT imdP indP imdS imdB imdO imdR imdA indA imP inP imS imB imO imR imA inA imH ihs)) (ws1 := (W_All cy aI aT adP adS adB adO adR adA aP aS aB aO aR aA aH ah imT imdP indP imdS imdB imdO imdR imdA indA imP inP imS imB imO imR imA inA imH ihs)) (rS (X := []) (Y := (W_All cy aI aT adP adS adB adO adR adA aP aS aB aO aR aA aH ah imT imdP indP imdS imdB imdO imdR imdA indA imP inP imS imB imO imR imA inA imH ihs)) (As := [.int r_43, .int (3 : Int32)]) (rest := [.int ((3 : Int32) + r_80), .ref (aI 0)]) hC (c_L_low l D cy r_43 (3 : Int32) r_82 hc_83) (cwS 2 hts gL_change_L_low rfl rfl rfl (by decide +kernel) ⟨Nat.le_of_ble_eq_true rfl, Nat.le_of_ble_eq_true rfl⟩) hK hN hP hD hS hA rfl rfl hl.1 rfl (lv_room (Nat.le_of_ble_eq_true rfl)) dL_change_349 ⟨Nat.le_of_ble_eq_true rfl, Nat.le_of_ble_eq_true rfl⟩) hP hD hS hA rfl rfl rfl (fun H locs hP hD hS => ?_)
                                refine lv_if_ne (tgt := 363) hx hb dL_change_352 (by decide) (fun c_84 => ?_) (fun c_84 => ?_)
                                · replace hE := it_f hE c_84
                                  refine lv_iload hx hb dL_change_363 (lv_at hl 0 rfl) ?_
                                  refine lv_bipush (v := 101) hx hb dL_change_365 (by decide) ?_
                                  obtain ⟨r_85, hc_86, hE⟩ := bd1_el hE
                                  refine ki (X := []) (Y := (W_All cy aI aT adP adS adB adO adR adA aP aS aB aO aR aA aH ah imT imdP indP imdS imdB imdO imdR imdA indA imP inP imS imB imO imR imA inA imH ihs)) (ws1 := (W_All cy aI aT adP adS adB adO adR adA aP aS aB aO aR aA aH ah imT imdP indP imdS imdB imdO imdR imdA indA imP inP imS imB imO imR imA inA imH ihs)) (rS (X := []) (Y := (W_All cy aI aT adP adS adB adO adR adA aP aS aB aO aR aA aH ah imT imdP indP imdS imdB imdO imdR imdA indA imP inP imS imB imO imR imA inA imH ihs)) (As := [.int r_43, .int (101 : Int32)]) (rest := [.int ((3 : Int32) + r_80), .ref (aI 0)]) hC (c_L_low l D cy r_43 (101 : Int32) r_85 hc_86) (cwS 2 hts gL_change_L_low rfl rfl rfl (by decide +kernel) ⟨Nat.le_of_ble_eq_true rfl, Nat.le_of_ble_eq_true rfl⟩) hK hN hP hD hS hA rfl rfl hl.1 rfl (lv_room (Nat.le_of_ble_eq_true rfl)) dL_change_367 ⟨Nat.le_of_ble_eq_true rfl, Nat.le_of_ble_eq_true rfl⟩) hP hD hS hA rfl rfl rfl (fun H locs hP hD hS => ?_)
                                  refine W.widen (k := 0) (n := 0) (Nat.le_of_ble_eq_true rfl) (Nat.le_of_ble_eq_true rfl) ?_
                                  exact h370 r_85 ((3 : Int32) + r_80) imP inP imS imB imO imR imA inA imH ihs _ _ _ hE hP hD hS (lv_sub hl [] rfl)
                                · replace hE := it_t hE c_84
                                  refine lv_iload hx hb dL_change_355 (lv_at hl 0 rfl) ?_
                                  refine lv_bipush (v := 20) hx hb dL_change_357 (by decide) ?_
                                  refine lv_imul hx hb dL_change_359 ?_
                                  refine lv_goto (tgt := 370) hx hb dL_change_360 (by decide) ?_
                                  refine W.widen (k := 0) (n := 0) (Nat.le_of_ble_eq_true rfl) (Nat.le_of_ble_eq_true rfl) ?_
                                  exact h370 (r_43 * (20 : Int32)) ((3 : Int32) + r_80) imP inP imS imB imO imR imA inA imH ihs _ _ _ hE hP hD hS (lv_sub hl [] rfl)
                              · replace hE := it_f hE c_61_14
                                by_cases c_61_15 : r_45 = 15
                                · replace hE := it_t hE c_61_15
                                  refine lv_tableIn (tgt := 374) hx hb dL_change_36 (by rw [c_61_15]; decide) (by rw [c_61_15]; decide) (off := 338) (by rw [c_61_15]; decide) (by decide) ?_
                                  refine lv_aload_n hx hb dL_change_374 rfl (lv_at hl 3 rfl) ?_
                                  refine lv_iload_n hx hb dL_change_375 rfl (lv_at hl 2 rfl) ?_
                                  refine lv_iload hx hb dL_change_376 (lv_at hl 1 rfl) ?_
                                  refine lv_bipush (v := 6) hx hb dL_change_378 (by decide) ?_
                                  obtain ⟨r_73, hc_74, hE⟩ := bd1_el hE
                                  refine ki (X := []) (Y := (W_All cy aI aT adP adS adB adO adR adA aP aS aB aO aR aA aH ah imT imdP indP imdS imdB imdO imdR imdA indA imP inP imS imB imO imR imA inA imH ihs)) (ws1 := (W_All cy aI aT adP adS adB adO adR adA aP aS aB aO aR aA aH ah imT imdP indP imdS imdB imdO imdR imdA indA imP inP imS imB imO imR imA inA imH ihs)) (rS (X := []) (Y := (W_All cy aI aT adP adS adB adO adR adA aP aS aB aO aR aA aH ah imT imdP indP imdS imdB imdO imdR imdA indA imP inP imS imB imO imR imA inA imH ihs)) (As := [.int r_41, .int (6 : Int32)]) (rest := [.int r_39, .ref (aI 0)]) hC (c_L_low l D cy r_41 (6 : Int32) r_73 hc_74) (cwS 2 hts gL_change_L_low rfl rfl rfl (by decide +kernel) ⟨Nat.le_of_ble_eq_true rfl, Nat.le_of_ble_eq_true rfl⟩) hK hN hP hD hS hA rfl rfl hl.1 rfl (lv_room (Nat.le_of_ble_eq_true rfl)) dL_change_380 ⟨Nat.le_of_ble_eq_true rfl, Nat.le_of_ble_eq_true rfl⟩) hP hD hS hA rfl rfl rfl (fun H locs hP hD hS => ?_)
                                  obtain ⟨r_75, mS_76, mH_77, hs_78, hc_79, hE⟩ := bd4_el hE
                                  refine ki (X := []) (Y := []) (ws1 := (W_All cy aI aT adP adS adB adO adR adA aP aS aB aO aR aA aH ah imT imdP indP imdS imdB imdO imdR imdA indA imP inP mS_76 imB imO imR imA inA mH_77 hs_78)) (rH (X := []) (Y := []) (As := [.ref (aI 0), .int r_39, .int r_73]) (rest := []) hC (c_L_move l hst D cy aI aT adP adS adB adO adR adA aP aS aB aO aR aA aH ah r_39 r_73 imT imdP indP imdS imdB imdO imdR imdA indA imP inP imS imB imO imR imA inA imH ihs r_75 mS_76 mH_77 hs_78 hc_79) (vx_cwSW (hh := [(0, 6, 7, 25), (0, 6, 11, 15), (0, 6, 15, 18)]) 3 hts gL_change_L_move rfl rfl rfl (by decide +kernel) ⟨Nat.le_of_ble_eq_true rfl, Nat.le_of_ble_eq_true rfl⟩) hK hN hX hP hD hS hA rfl rfl hl.1 rfl (lv_room (Nat.le_of_ble_eq_true rfl)) dL_change_383 ⟨Nat.le_of_ble_eq_true rfl, Nat.le_of_ble_eq_true rfl⟩) hP hD hS hA rfl (fst_All cy aI aT adP adS adB adO adR adA aP aS aB aO aR aA aH ah imT imdP indP imdS imdB imdO imdR imdA indA imP inP imS imB imO imR imA inA imH ihs imT imdP indP imdS imdB imdO imdR imdA indA imP inP mS_76 imB imO imR imA inA mH_77 hs_78) rfl (fun H locs hP hD hS => ?_)
                                  have hE := Option.some.inj hE
                                  obtain ⟨q0, hE⟩ := Prod.mk.inj hE
                                  obtain ⟨q1, hE⟩ := Prod.mk.inj hE
                                  obtain ⟨q2, hE⟩ := Prod.mk.inj hE
                                  obtain ⟨q3, hE⟩ := Prod.mk.inj hE
                                  obtain ⟨q4, hE⟩ := Prod.mk.inj hE
                                  obtain ⟨q5, hE⟩ := Prod.mk.inj hE
                                  obtain ⟨q6, hE⟩ := Prod.mk.inj hE
                                  obtain ⟨q7, hE⟩ := Prod.mk.inj hE
                                  obtain ⟨q8, hE⟩ := Prod.mk.inj hE
                                  obtain ⟨q9, q10⟩ := Prod.mk.inj hE
                                  refine W.widen (k := 4) (n := 24) (Nat.le_of_ble_eq_true rfl) (Nat.le_of_ble_eq_true rfl) ?_
                                  exact ei hx hb hr hlocks hK hP hD hS q0 (by rw [q1, q2, q3, q4, q5, q6, q7, q8, q9, q10]) dL_change_386
                                · replace hE := it_f hE c_61_15
                                  by_cases c_61_16 : r_45 = 16
                                  · replace hE := it_t hE c_61_16
                                    refine lv_tableIn (tgt := 387) hx hb dL_change_36 (by rw [c_61_16]; decide) (by rw [c_61_16]; decide) (off := 351) (by rw [c_61_16]; decide) (by decide) ?_
                                    refine lv_aload_n hx hb dL_change_387 rfl (lv_at hl 3 rfl) ?_
                                    obtain ⟨r_62, mP_63, nP_64, mS_65, mB_66, mO_67, mR_68, mA_69, nA_70, mH_71, hc_72, hE⟩ := bd10_el hE
                                    refine ki (X := []) (Y := []) (ws1 := (W_All cy aI aT adP adS adB adO adR adA aP aS aB aO aR aA aH ah imT imdP indP imdS imdB imdO imdR imdA indA mP_63 nP_64 mS_65 mB_66 mO_67 mR_68 mA_69 nA_70 mH_71 ihs)) (rH (X := []) (Y := []) (As := [.ref (aI 0)]) (rest := []) hC (c_L_undo l hst D cy aI aT adP adS adB adO adR adA aP aS aB aO aR aA aH ah imT imdP indP imdS imdB imdO imdR imdA indA imP inP imS imB imO imR imA inA imH ihs r_62 mP_63 nP_64 mS_65 mB_66 mO_67 mR_68 mA_69 nA_70 mH_71 hc_72) (vx_cwSW (hh := [(0, 4, 5, 18)]) 1 hts gL_change_L_undo rfl rfl rfl (by decide +kernel) ⟨Nat.le_of_ble_eq_true rfl, Nat.le_of_ble_eq_true rfl⟩) hK hN hX hP hD hS hA rfl rfl hl.1 rfl (lv_room (Nat.le_of_ble_eq_true rfl)) dL_change_388 ⟨Nat.le_of_ble_eq_true rfl, Nat.le_of_ble_eq_true rfl⟩) hP hD hS hA rfl rfl rfl (fun H locs hP hD hS => ?_)
                                    have hE := Option.some.inj hE
                                    obtain ⟨q0, hE⟩ := Prod.mk.inj hE
                                    obtain ⟨q1, hE⟩ := Prod.mk.inj hE
                                    obtain ⟨q2, hE⟩ := Prod.mk.inj hE
                                    obtain ⟨q3, hE⟩ := Prod.mk.inj hE
                                    obtain ⟨q4, hE⟩ := Prod.mk.inj hE
                                    obtain ⟨q5, hE⟩ := Prod.mk.inj hE
                                    obtain ⟨q6, hE⟩ := Prod.mk.inj hE
                                    obtain ⟨q7, hE⟩ := Prod.mk.inj hE
                                    obtain ⟨q8, hE⟩ := Prod.mk.inj hE
                                    obtain ⟨q9, q10⟩ := Prod.mk.inj hE
                                    refine W.widen (k := 4) (n := 24) (Nat.le_of_ble_eq_true rfl) (Nat.le_of_ble_eq_true rfl) ?_
                                    exact ei hx hb hr hlocks hK hP hD hS q0 (by rw [q1, q2, q3, q4, q5, q6, q7, q8, q9, q10]) dL_change_391
                                  · replace hE := it_f hE c_61_16
                                    refine lv_tableOut (tgt := 392) hx hb dL_change_36 (sw_out (lo := 0) (hi := 16) (fun z h1 h2 => ?_)) (by decide) ?_
                                    · rcases (show z = 0 ∨ z = 1 ∨ z = 2 ∨ z = 3 ∨ z = 4 ∨ z = 5 ∨ z = 6 ∨ z = 7 ∨ z = 8 ∨ z = 9 ∨ z = 10 ∨ z = 11 ∨ z = 12 ∨ z = 13 ∨ z = 14 ∨ z = 15 ∨ z = 16 by omega) with rfl | rfl | rfl | rfl | rfl | rfl | rfl | rfl | rfl | rfl | rfl | rfl | rfl | rfl | rfl | rfl | rfl
                                      · exact fun q9 => c_61_0 (q9.trans (by decide))
                                      · exact fun q9 => c_61_1 (q9.trans (by decide))
                                      · exact fun q9 => c_61_2 (q9.trans (by decide))
                                      · exact fun q9 => c_61_3 (q9.trans (by decide))
                                      · exact fun q9 => c_61_4 (q9.trans (by decide))
                                      · exact fun q9 => c_61_5 (q9.trans (by decide))
                                      · exact fun q9 => c_61_6 (q9.trans (by decide))
                                      · exact fun q9 => c_61_7 (q9.trans (by decide))
                                      · exact fun q9 => c_61_8 (q9.trans (by decide))
                                      · exact fun q9 => c_61_9 (q9.trans (by decide))
                                      · exact fun q9 => c_61_10 (q9.trans (by decide))
                                      · exact fun q9 => c_61_11 (q9.trans (by decide))
                                      · exact fun q9 => c_61_12 (q9.trans (by decide))
                                      · exact fun q9 => c_61_13 (q9.trans (by decide))
                                      · exact fun q9 => c_61_14 (q9.trans (by decide))
                                      · exact fun q9 => c_61_15 (q9.trans (by decide))
                                      · exact fun q9 => c_61_16 (q9.trans (by decide))
                                    · refine lv_aload_n hx hb dL_change_392 rfl (lv_at hl 3 rfl) ?_
                                      refine lv_iconst (v := 1) hx hb dL_change_393 (by decide) ?_
                                      refine lv_iload_n hx hb dL_change_394 rfl (lv_at hl 5 rfl) ?_
                                      refine lv_bipush (v := 9) hx hb dL_change_395 (by decide) ?_
                                      obtain ⟨r_47, hc_48, hE⟩ := bd1_el hE
                                      refine ki (X := []) (Y := (W_All cy aI aT adP adS adB adO adR adA aP aS aB aO aR aA aH ah imT imdP indP imdS imdB imdO imdR imdA indA imP inP imS imB imO imR imA inA imH ihs)) (ws1 := (W_All cy aI aT adP adS adB adO adR adA aP aS aB aO aR aA aH ah imT imdP indP imdS imdB imdO imdR imdA indA imP inP imS imB imO imR imA inA imH ihs)) (rS (X := []) (Y := (W_All cy aI aT adP adS adB adO adR adA aP aS aB aO aR aA aH ah imT imdP indP imdS imdB imdO imdR imdA indA imP inP imS imB imO imR imA inA imH ihs)) (As := [.int x2, .int (9 : Int32)]) (rest := [.int (1 : Int32), .ref (aI 0)]) hC (c_L_low l D cy x2 (9 : Int32) r_47 hc_48) (cwS 2 hts gL_change_L_low rfl rfl rfl (by decide +kernel) ⟨Nat.le_of_ble_eq_true rfl, Nat.le_of_ble_eq_true rfl⟩) hK hN hP hD hS hA rfl rfl hl.1 rfl (lv_room (Nat.le_of_ble_eq_true rfl)) dL_change_397 ⟨Nat.le_of_ble_eq_true rfl, Nat.le_of_ble_eq_true rfl⟩) hP hD hS hA rfl rfl rfl (fun H locs hP hD hS => ?_)
                                      refine lv_iadd hx hb dL_change_400 ?_
                                      obtain ⟨r_49, mP_50, nP_51, mS_52, mB_53, mO_54, mR_55, mA_56, nA_57, mH_58, hs_59, hc_60, hE⟩ := bd11_el hE
                                      refine ki (X := []) (Y := []) (ws1 := (W_All cy aI aT adP adS adB adO adR adA aP aS aB aO aR aA aH ah imT imdP indP imdS imdB imdO imdR imdA indA mP_50 nP_51 mS_52 mB_53 mO_54 mR_55 mA_56 nA_57 mH_58 hs_59)) (rH (X := []) (Y := []) (As := [.ref (aI 0), .int ((1 : Int32) + r_47)]) (rest := []) hC (c_L_pass l hst D cy aI aT adP adS adB adO adR adA aP aS aB aO aR aA aH ah ((1 : Int32) + r_47) imT imdP indP imdS imdB imdO imdR imdA indA imP inP imS imB imO imR imA inA imH ihs r_49 mP_50 nP_51 mS_52 mB_53 mO_54 mR_55 mA_56 nA_57 mH_58 hs_59 hc_60) (vx_cwSW (hh := [(0, 5, 6, 15), (0, 5, 10, 18)]) 2 hts gL_change_L_pass rfl rfl rfl (by decide +kernel) ⟨Nat.le_of_ble_eq_true rfl, Nat.le_of_ble_eq_true rfl⟩) hK hN hX hP hD hS hA rfl rfl hl.1 rfl (lv_room (Nat.le_of_ble_eq_true rfl)) dL_change_401 ⟨Nat.le_of_ble_eq_true rfl, Nat.le_of_ble_eq_true rfl⟩) hP hD hS hA rfl (fst_All cy aI aT adP adS adB adO adR adA aP aS aB aO aR aA aH ah imT imdP indP imdS imdB imdO imdR imdA indA imP inP imS imB imO imR imA inA imH ihs imT imdP indP imdS imdB imdO imdR imdA indA mP_50 nP_51 mS_52 mB_53 mO_54 mR_55 mA_56 nA_57 mH_58 hs_59) rfl (fun H locs hP hD hS => ?_)
                                      have hE := Option.some.inj hE
                                      obtain ⟨q0, hE⟩ := Prod.mk.inj hE
                                      obtain ⟨q1, hE⟩ := Prod.mk.inj hE
                                      obtain ⟨q2, hE⟩ := Prod.mk.inj hE
                                      obtain ⟨q3, hE⟩ := Prod.mk.inj hE
                                      obtain ⟨q4, hE⟩ := Prod.mk.inj hE
                                      obtain ⟨q5, hE⟩ := Prod.mk.inj hE
                                      obtain ⟨q6, hE⟩ := Prod.mk.inj hE
                                      obtain ⟨q7, hE⟩ := Prod.mk.inj hE
                                      obtain ⟨q8, hE⟩ := Prod.mk.inj hE
                                      obtain ⟨q9, q10⟩ := Prod.mk.inj hE
                                      refine W.widen (k := 4) (n := 24) (Nat.le_of_ble_eq_true rfl) (Nat.le_of_ble_eq_true rfl) ?_
                                      exact ei hx hb hr hlocks hK hP hD hS q0 (by rw [q1, q2, q3, q4, q5, q6, q7, q8, q9, q10]) dL_change_404
