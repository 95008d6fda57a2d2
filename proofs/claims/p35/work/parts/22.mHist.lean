abbrev rm_X2_save : Room := { frames := 4, cells := 0, slots := 0, locals := 81 }
set_option maxHeartbeats 40000000 in
set_option maxRecDepth 100000 in
theorem c_X2_save (l : Launch) (D : va_G) (cy : Nat → Nat) (aP aS aB aO aR aA aH : Nat → Nat) (ah : Nat → Nat → Nat → Nat) (imP : Mem) (inP : MemL) (imS : Mem) (imB : Mem) (imO : Mem) (imR : Mem) (imA : Mem) (inA : MemL) (imH : Mem) (ihs : (Nat → PSt)) (mH' : Mem) (hs' : (Nat → PSt)) (hE : f_X2_save imP inP imS imB imO imR imA inA imH ihs = some (mH', hs')) : CV l yX2_save wsX2_save rm_X2_save D cy [.ref (aH 0), .ref (aP 0)] ((W_P cy aP aS aB aO aR aA imP inP) ++ ((W_S cy aS imS) ++ ((W_B cy aB imB) ++ ((W_O cy aO imO) ++ ((W_R cy aR imR) ++ ((W_A cy aA imA inA) ++ ((W_H cy aH ah imH) ++ (W_HS cy ah ihs)))))))) 0 0 ((W_P cy aP aS aB aO aR aA imP inP) ++ ((W_S cy aS imS) ++ ((W_B cy aB imB) ++ ((W_O cy aO imO) ++ ((W_R cy aR imR) ++ ((W_A cy aA imA inA) ++ ((W_H cy aH ah mH') ++ (W_HS cy ah hs')))))))) := by
  refine CQ_of (cc := cX2_save) (maxL := 3) (ret := none) (by decide) rfl (Nat.le_of_ble_eq_true rfl) (fun p e s m args below meth c A ls hx hb hr hml hlocks hnm hown hts hA hK hN hP hD hS hl => ?_)
  have hown : s.vm.findClass RX2 = some m.cls := hown
  have hl : lv_has ls 3 [(0, .ref (aH 0)), (1, .ref (aP 0))] := hl
  have hC : CallFix p m c cX2_save 3 s args wsX2_save RX2 := ⟨hx, hb, hml, hown, hts⟩
  have f11 : (Cond.fieldLink RX2 11 "IcePlant$History" "states" "[LIcePlant$Plant;").before args s = true := hts _ (mC qf_X2_11)
  have f16 : (Cond.fieldLink RX2 16 "IcePlant$History" "count" "I").before args s = true := hts _ (mC qf_X2_16)
  have f20 : (Cond.fieldLink RX2 20 "IcePlant$History" "oldest" "I").before args s = true := hts _ (mC qf_X2_20)
  have iX2 : ∀ w ∈ wsX20, w ∈ wsX2_save := fun w h => mC (iA_X2 w h)
  have h32 : ∀ (mH : Mem) (hs : (Nat → PSt)), ∀  (H : Heap) (locs : List Loc) (ls : Array Slot), f_X2_save_b32 imP inP imS imB imO imR imA inA mH hs = some (mH', hs') → va_P D vwCl ((W_P cy aP aS aB aO aR aA imP inP) ++ ((W_S cy aS imS) ++ ((W_B cy aB imB) ++ ((W_O cy aO imO) ++ ((W_R cy aR imR) ++ ((W_A cy aA imA inA) ++ ((W_H cy aH ah mH) ++ (W_HS cy ah hs)))))))) H → va_D A ((W_P cy aP aS aB aO aR aA imP inP) ++ ((W_S cy aS imS) ++ ((W_B cy aB imB) ++ ((W_O cy aO imO) ++ ((W_R cy aR imR) ++ ((W_A cy aA imA inA) ++ ((W_H cy aH ah mH) ++ (W_HS cy ah hs)))))))) → va_S A s.heap H locs → lv_has ls 3 [(0, .ref (aH 0)), (1, .ref (aP 0))] → W p l e rm_X2_save s m args below meth c H locs 0 0 (MQ below (QV D cy ((W_P cy aP aS aB aO aR aA imP inP) ++ ((W_S cy aS imS) ++ ((W_B cy aB imB) ++ ((W_O cy aO imO) ++ ((W_R cy aR imR) ++ ((W_A cy aA imA inA) ++ ((W_H cy aH ah mH') ++ (W_HS cy ah hs')))))))) A) args s 0 0 A) (F0 m 32 ls []) := by
    intro mH hs H locs ls hE hP hD hS hl
    replace hE : (gi (((mH 0 0) + (mH 1 0)) - ((mH 0 0) + (mH 1 0)) / (8 : Int32) * (8 : Int32)) 8 (bd1 (f_X4_copyFrom (hs (((mH 0 0) + (mH 1 0)) - ((mH 0 0) + (mH 1 0)) / (8 : Int32) * (8 : Int32)).toNatClampNeg).1 (hs (((mH 0 0) + (mH 1 0)) - ((mH 0 0) + (mH 1 0)) / (8 : Int32) * (8 : Int32)).toNatClampNeg).2.1 (hs (((mH 0 0) + (mH 1 0)) - ((mH 0 0) + (mH 1 0)) / (8 : Int32) * (8 : Int32)).toNatClampNeg).2.2.1 (hs (((mH 0 0) + (mH 1 0)) - ((mH 0 0) + (mH 1 0)) / (8 : Int32) * (8 : Int32)).toNatClampNeg).2.2.2.1 (hs (((mH 0 0) + (mH 1 0)) - ((mH 0 0) + (mH 1 0)) / (8 : Int32) * (8 : Int32)).toNatClampNeg).2.2.2.2.1 (hs (((mH 0 0) + (mH 1 0)) - ((mH 0 0) + (mH 1 0)) / (8 : Int32) * (8 : Int32)).toNatClampNeg).2.2.2.2.2.1 (hs (((mH 0 0) + (mH 1 0)) - ((mH 0 0) + (mH 1 0)) / (8 : Int32) * (8 : Int32)).toNatClampNeg).2.2.2.2.2.2.1 (hs (((mH 0 0) + (mH 1 0)) - ((mH 0 0) + (mH 1 0)) / (8 : Int32) * (8 : Int32)).toNatClampNeg).2.2.2.2.2.2.2 imP inP imS imB imO imR imA inA) fun q_3 => lt' (uph hs (((mH 0 0) + (mH 1 0)) - ((mH 0 0) + (mH 1 0)) / (8 : Int32) * (8 : Int32)).toNatClampNeg q_3) fun hs_4 => lt' (wrI mH 1 (fun _ => ((mH 1 0) + (1 : Int32)))) fun mH_5 => some (mH_5, hs_4))) = some (mH', hs') := hE
    refine lv_aload_n hx hb dX2_save_32 rfl (lv_at hl 0 rfl) ?_
    refine va_get (D := D) (ci := 2) (v := .ref (aH 3)) (C := RX2) (T := TX2) (N := 3) hx hb hts iX2 hown hK hP 36 rfl rfl 2 (by decide) f11 (fun _ h9 => h9) rfl dX2_save_33 ?_
    refine lv_aload_n hx hb dX2_save_36 rfl (lv_at hl 0 rfl) ?_
    refine va_get (D := D) (ci := 2) (v := .int (mH 0 0)) (C := RX2) (T := TX2) (N := 3) hx hb hts iX2 hown hK hP 36 rfl rfl 0 (by decide) f20 (fun _ h9 => h9) rfl dX2_save_37 ?_
    refine lv_aload_n hx hb dX2_save_40 rfl (lv_at hl 0 rfl) ?_
    refine va_get (D := D) (ci := 2) (v := .int (mH 1 0)) (C := RX2) (T := TX2) (N := 3) hx hb hts iX2 hown hK hP 36 rfl rfl 1 (by decide) f16 (fun _ h9 => h9) rfl dX2_save_41 ?_
    refine lv_iadd hx hb dX2_save_44 ?_
    refine lv_bipush (v := 8) hx hb dX2_save_45 (by decide) ?_
    refine lv_irem hx hb dX2_save_47 (by decide) ?_
    obtain ⟨g_1, hE⟩ := gi_el hE
    refine va_aldq hx hb hK hP 37 3 rfl rfl g_1 dX2_save_48 ?_
    refine lv_astore_n (lv' := [(2, .ref (ah (((mH 0 0) + (mH 1 0)) - ((mH 0 0) + (mH 1 0)) / (8 : Int32) * (8 : Int32)).toNatClampNeg 0 0)), (0, .ref (aH 0)), (1, .ref (aP 0))]) hx hb dX2_save_49 rfl hl (by decide) rfl (fun ls hl => ?_)
    refine lv_aload_n hx hb dX2_save_50 rfl (lv_at hl 0 rfl) ?_
    refine lv_ifnull hx hb dX2_save_51 ?_
    refine lv_aload_n hx hb dX2_save_54 rfl (lv_at hl 0 rfl) ?_
    refine lv_aload_n hx hb dX2_save_55 rfl (lv_at hl 2 rfl) ?_
    obtain ⟨q_3, hc_2, hE⟩ := bd1_el hE
    obtain ⟨hs_4, e_hs_4, hE⟩ := lt_el hE
    obtain ⟨hX, hY, hXY⟩ := hs_split cy ah hs 8 (((mH 0 0) + (mH 1 0)) - ((mH 0 0) + (mH 1 0)) / (8 : Int32) * (8 : Int32)).toNatClampNeg (Nat.lt_of_not_le (fun q9 => g_1 (Or.inr q9)))
    have e0 : W_HS cy ah hs = hX ++ (W_Pt cy (ah (((mH 0 0) + (mH 1 0)) - ((mH 0 0) + (mH 1 0)) / (8 : Int32) * (8 : Int32)).toNatClampNeg) (hs (((mH 0 0) + (mH 1 0)) - ((mH 0 0) + (mH 1 0)) / (8 : Int32) * (8 : Int32)).toNatClampNeg) ++ hY) := by have h9 := hXY (hs (((mH 0 0) + (mH 1 0)) - ((mH 0 0) + (mH 1 0)) / (8 : Int32) * (8 : Int32)).toNatClampNeg); rw [uph_self] at h9; exact h9
    have e1 : W_HS cy ah hs_4 = hX ++ (W_Pt cy (ah (((mH 0 0) + (mH 1 0)) - ((mH 0 0) + (mH 1 0)) / (8 : Int32) * (8 : Int32)).toNatClampNeg) q_3 ++ hY) := by rw [e_hs_4]; exact hXY q_3
    have eW : ((W_P cy aP aS aB aO aR aA imP inP) ++ ((W_S cy aS imS) ++ ((W_B cy aB imB) ++ ((W_O cy aO imO) ++ ((W_R cy aR imR) ++ ((W_A cy aA imA inA) ++ ((W_H cy aH ah mH) ++ (W_HS cy ah hs)))))))) = (W_Pl cy aP aS aB aO aR aA imP inP imS imB imO imR imA inA) ++ ((W_H cy aH ah mH) ++ (hX ++ (W_Pt cy (ah (((mH 0 0) + (mH 1 0)) - ((mH 0 0) + (mH 1 0)) / (8 : Int32) * (8 : Int32)).toNatClampNeg) (hs (((mH 0 0) + (mH 1 0)) - ((mH 0 0) + (mH 1 0)) / (8 : Int32) * (8 : Int32)).toNatClampNeg) ++ hY))) := by rw [e0]; rfl
    have hP2 := va_P_perm (hpm (W_Pl cy aP aS aB aO aR aA imP inP imS imB imO imR imA inA) (W_H cy aH ah mH) hX (W_Pt cy (ah (((mH 0 0) + (mH 1 0)) - ((mH 0 0) + (mH 1 0)) / (8 : Int32) * (8 : Int32)).toNatClampNeg) (hs (((mH 0 0) + (mH 1 0)) - ((mH 0 0) + (mH 1 0)) / (8 : Int32) * (8 : Int32)).toNatClampNeg)) hY) (eW ▸ hP)
    have hD2 := va_D_perm (hpm (W_Pl cy aP aS aB aO aR aA imP inP imS imB imO imR imA inA) (W_H cy aH ah mH) hX (W_Pt cy (ah (((mH 0 0) + (mH 1 0)) - ((mH 0 0) + (mH 1 0)) / (8 : Int32) * (8 : Int32)).toNatClampNeg) (hs (((mH 0 0) + (mH 1 0)) - ((mH 0 0) + (mH 1 0)) / (8 : Int32) * (8 : Int32)).toNatClampNeg)) hY) (eW ▸ hD)
    refine kv (X := []) (Y := (W_H cy aH ah mH) ++ (hX ++ hY)) (ws1 := [] ++ (((W_Pt cy (ah (((mH 0 0) + (mH 1 0)) - ((mH 0 0) + (mH 1 0)) / (8 : Int32) * (8 : Int32)).toNatClampNeg) q_3) ++ (W_Pl cy aP aS aB aO aR aA imP inP imS imB imO imR imA inA)) ++ ((W_H cy aH ah mH) ++ (hX ++ hY)))) (rV (X := []) (Y := (W_H cy aH ah mH) ++ (hX ++ hY)) (As := [.ref (aP 0)]) (rest := []) hC (c_X4_copyFrom l D cy (ah (((mH 0 0) + (mH 1 0)) - ((mH 0 0) + (mH 1 0)) / (8 : Int32) * (8 : Int32)).toNatClampNeg 0) (ah (((mH 0 0) + (mH 1 0)) - ((mH 0 0) + (mH 1 0)) / (8 : Int32) * (8 : Int32)).toNatClampNeg 1) (ah (((mH 0 0) + (mH 1 0)) - ((mH 0 0) + (mH 1 0)) / (8 : Int32) * (8 : Int32)).toNatClampNeg 2) (ah (((mH 0 0) + (mH 1 0)) - ((mH 0 0) + (mH 1 0)) / (8 : Int32) * (8 : Int32)).toNatClampNeg 3) (ah (((mH 0 0) + (mH 1 0)) - ((mH 0 0) + (mH 1 0)) / (8 : Int32) * (8 : Int32)).toNatClampNeg 4) (ah (((mH 0 0) + (mH 1 0)) - ((mH 0 0) + (mH 1 0)) / (8 : Int32) * (8 : Int32)).toNatClampNeg 5) aP aS aB aO aR aA (hs (((mH 0 0) + (mH 1 0)) - ((mH 0 0) + (mH 1 0)) / (8 : Int32) * (8 : Int32)).toNatClampNeg).1 (hs (((mH 0 0) + (mH 1 0)) - ((mH 0 0) + (mH 1 0)) / (8 : Int32) * (8 : Int32)).toNatClampNeg).2.1 (hs (((mH 0 0) + (mH 1 0)) - ((mH 0 0) + (mH 1 0)) / (8 : Int32) * (8 : Int32)).toNatClampNeg).2.2.1 (hs (((mH 0 0) + (mH 1 0)) - ((mH 0 0) + (mH 1 0)) / (8 : Int32) * (8 : Int32)).toNatClampNeg).2.2.2.1 (hs (((mH 0 0) + (mH 1 0)) - ((mH 0 0) + (mH 1 0)) / (8 : Int32) * (8 : Int32)).toNatClampNeg).2.2.2.2.1 (hs (((mH 0 0) + (mH 1 0)) - ((mH 0 0) + (mH 1 0)) / (8 : Int32) * (8 : Int32)).toNatClampNeg).2.2.2.2.2.1 (hs (((mH 0 0) + (mH 1 0)) - ((mH 0 0) + (mH 1 0)) / (8 : Int32) * (8 : Int32)).toNatClampNeg).2.2.2.2.2.2.1 (hs (((mH 0 0) + (mH 1 0)) - ((mH 0 0) + (mH 1 0)) / (8 : Int32) * (8 : Int32)).toNatClampNeg).2.2.2.2.2.2.2 imP inP imS imB imO imR imA inA q_3.1 q_3.2.1 q_3.2.2.1 q_3.2.2.2.1 q_3.2.2.2.2.1 q_3.2.2.2.2.2.1 q_3.2.2.2.2.2.2.1 q_3.2.2.2.2.2.2.2 hc_2) (cwV 1 hts gX2_save_X4_copyFrom rfl rfl rfl cd_X4_copyFrom ⟨Nat.le_of_ble_eq_true rfl, Nat.le_of_ble_eq_true rfl⟩) hK hN hP2 hD2 hS hA rfl 0 4 rfl rfl rfl hl.1 rfl (lv_room (Nat.le_of_ble_eq_true rfl)) dX2_save_56 ⟨Nat.le_of_ble_eq_true rfl, Nat.le_of_ble_eq_true rfl⟩) hP2 hD2 hS hA rfl rfl rfl (fun H locs hP hD hS => ?_)
    have e9 : (W_Pl cy aP aS aB aO aR aA imP inP imS imB imO imR imA inA) ++ ((W_H cy aH ah mH) ++ (hX ++ (W_Pt cy (ah (((mH 0 0) + (mH 1 0)) - ((mH 0 0) + (mH 1 0)) / (8 : Int32) * (8 : Int32)).toNatClampNeg) q_3 ++ hY))) = ((W_P cy aP aS aB aO aR aA imP inP) ++ ((W_S cy aS imS) ++ ((W_B cy aB imB) ++ ((W_O cy aO imO) ++ ((W_R cy aR imR) ++ ((W_A cy aA imA inA) ++ ((W_H cy aH ah mH) ++ (W_HS cy ah hs_4)))))))) := by rw [e1]; rfl
    have hP := va_P_perm (hpm (W_Pl cy aP aS aB aO aR aA imP inP imS imB imO imR imA inA) (W_H cy aH ah mH) hX (W_Pt cy (ah (((mH 0 0) + (mH 1 0)) - ((mH 0 0) + (mH 1 0)) / (8 : Int32) * (8 : Int32)).toNatClampNeg) q_3) hY).symm hP
    have hD := va_D_perm (hpm (W_Pl cy aP aS aB aO aR aA imP inP imS imB imO imR imA inA) (W_H cy aH ah mH) hX (W_Pt cy (ah (((mH 0 0) + (mH 1 0)) - ((mH 0 0) + (mH 1 0)) / (8 : Int32) * (8 : Int32)).toNatClampNeg) q_3) hY).symm hD
    rw [e9] at hP hD
    refine lv_aload_n hx hb dX2_save_59 rfl (lv_at hl 1 rfl) ?_
    refine lv_dup hx hb dX2_save_60 rfl ?_
    refine va_get (D := D) (ci := 2) (v := .int (mH 1 0)) (C := RX2) (T := TX2) (N := 3) hx hb hts iX2 hown hK hP 36 rfl rfl 1 (by decide) f16 (fun _ h9 => h9) rfl dX2_save_61 ?_
    refine lv_iconst (v := 1) hx hb dX2_save_64 (by decide) ?_
    refine lv_iadd hx hb dX2_save_65 ?_
    obtain ⟨mH_5, e_mH_5, hE⟩ := lt_el hE
    refine s_pf (own := RX2) (C := RX2) (T := TX2) (N := 3) (ci := 2) (ws1 := ((W_P cy aP aS aB aO aR aA imP inP) ++ ((W_S cy aS imS) ++ ((W_B cy aB imB) ++ ((W_O cy aO imO) ++ ((W_R cy aR imR) ++ ((W_A cy aA imA inA) ++ ((W_H cy aH ah mH_5) ++ (W_HS cy ah hs_4))))))))) hx hb hts iX2 tyX2 tyX2_ok nmX2 hown hK hP hD hS 36 rfl rfl 1 (by decide) f16 rfl rfl rfl rfl (Nat.le_of_ble_eq_true rfl) (by rw [e_mH_5]; rfl) dX2_save_66 (fun H locs hP hD hS => ?_)
    have hE := Option.some.inj hE
    obtain ⟨q0, q1⟩ := Prod.mk.inj hE
    exact ev hx hb hr hlocks hK hP hD hS (by rw [q0, q1]) dX2_save_69
  unfold f_X2_save at hE
  refine lv_aload_n hx hb dX2_save_0 rfl (lv_at hl 0 rfl) ?_
  refine va_get (D := D) (ci := 2) (v := .int (imH 1 0)) (C := RX2) (T := TX2) (N := 3) hx hb hts iX2 hown hK hP 36 rfl rfl 1 (by decide) f16 (fun _ h9 => h9) rfl dX2_save_1 ?_
  refine lv_bipush (v := 8) hx hb dX2_save_4 (by decide) ?_
  refine lv_icmp_ne (tgt := 32) hx hb dX2_save_6 (by decide) (fun c_6 => ?_) (fun c_6 => ?_)
  · replace hE := it_f hE c_6
    exact h32 imH ihs _ _ _ hE hP hD hS (lv_sub hl [0, 1] rfl)
  · replace hE := it_t hE c_6
    refine lv_aload_n hx hb dX2_save_9 rfl (lv_at hl 0 rfl) ?_
    refine lv_aload_n hx hb dX2_save_10 rfl (lv_at hl 0 rfl) ?_
    refine va_get (D := D) (ci := 2) (v := .int (imH 0 0)) (C := RX2) (T := TX2) (N := 3) hx hb hts iX2 hown hK hP 36 rfl rfl 0 (by decide) f20 (fun _ h9 => h9) rfl dX2_save_11 ?_
    refine lv_iconst (v := 1) hx hb dX2_save_14 (by decide) ?_
    refine lv_iadd hx hb dX2_save_15 ?_
    refine lv_bipush (v := 8) hx hb dX2_save_16 (by decide) ?_
    refine lv_irem hx hb dX2_save_18 (by decide) ?_
    obtain ⟨mH_7, e_mH_7, hE⟩ := lt_el hE
    refine s_pf (own := RX2) (C := RX2) (T := TX2) (N := 3) (ci := 2) (ws1 := ((W_P cy aP aS aB aO aR aA imP inP) ++ ((W_S cy aS imS) ++ ((W_B cy aB imB) ++ ((W_O cy aO imO) ++ ((W_R cy aR imR) ++ ((W_A cy aA imA inA) ++ ((W_H cy aH ah mH_7) ++ (W_HS cy ah ihs))))))))) hx hb hts iX2 tyX2 tyX2_ok nmX2 hown hK hP hD hS 36 rfl rfl 0 (by decide) f20 rfl rfl rfl rfl (Nat.le_of_ble_eq_true rfl) (by rw [e_mH_7]; rfl) dX2_save_19 (fun H locs hP hD hS => ?_)
    refine lv_aload_n hx hb dX2_save_22 rfl (lv_at hl 0 rfl) ?_
    refine lv_dup hx hb dX2_save_23 rfl ?_
    refine va_get (D := D) (ci := 2) (v := .int (mH_7 1 0)) (C := RX2) (T := TX2) (N := 3) hx hb hts iX2 hown hK hP 36 rfl rfl 1 (by decide) f16 (fun _ h9 => h9) rfl dX2_save_24 ?_
    refine lv_iconst (v := 1) hx hb dX2_save_27 (by decide) ?_
    refine lv_isub hx hb dX2_save_28 ?_
    obtain ⟨mH_8, e_mH_8, hE⟩ := lt_el hE
    refine s_pf (own := RX2) (C := RX2) (T := TX2) (N := 3) (ci := 2) (ws1 := ((W_P cy aP aS aB aO aR aA imP inP) ++ ((W_S cy aS imS) ++ ((W_B cy aB imB) ++ ((W_O cy aO imO) ++ ((W_R cy aR imR) ++ ((W_A cy aA imA inA) ++ ((W_H cy aH ah mH_8) ++ (W_HS cy ah ihs))))))))) hx hb hts iX2 tyX2 tyX2_ok nmX2 hown hK hP hD hS 36 rfl rfl 1 (by decide) f16 rfl rfl rfl rfl (Nat.le_of_ble_eq_true rfl) (by rw [e_mH_8]; rfl) dX2_save_29 (fun H locs hP hD hS => ?_)
    exact h32 mH_8 ihs _ _ _ hE hP hD hS (lv_sub hl [0, 1] rfl)
abbrev rm_X2_restore : Room := { frames := 4, cells := 0, slots := 0, locals := 81 }
set_option maxHeartbeats 40000000 in
set_option maxRecDepth 100000 in
theorem c_X2_restore (l : Launch) (D : va_G) (cy : Nat → Nat) (aP aS aB aO aR aA aH : Nat → Nat) (ah : Nat → Nat → Nat → Nat) (imP : Mem) (inP : MemL) (imS : Mem) (imB : Mem) (imO : Mem) (imR : Mem) (imA : Mem) (inA : MemL) (imH : Mem) (ihs : (Nat → PSt)) (r' : Int32) (mP' : Mem) (nP' : MemL) (mS' : Mem) (mB' : Mem) (mO' : Mem) (mR' : Mem) (mA' : Mem) (nA' : MemL) (mH' : Mem) (hE : f_X2_restore imP inP imS imB imO imR imA inA imH ihs = some (r', mP', nP', mS', mB', mO', mR', mA', nA', mH')) : CI l yX2_restore wsX2_restore rm_X2_restore D cy [.ref (aH 0), .ref (aP 0)] ((W_P cy aP aS aB aO aR aA imP inP) ++ ((W_S cy aS imS) ++ ((W_B cy aB imB) ++ ((W_O cy aO imO) ++ ((W_R cy aR imR) ++ ((W_A cy aA imA inA) ++ ((W_H cy aH ah imH) ++ (W_HS cy ah ihs)))))))) 0 0 r' ((W_P cy aP aS aB aO aR aA mP' nP') ++ ((W_S cy aS mS') ++ ((W_B cy aB mB') ++ ((W_O cy aO mO') ++ ((W_R cy aR mR') ++ ((W_A cy aA mA' nA') ++ ((W_H cy aH ah mH') ++ (W_HS cy ah ihs)))))))) := by
  refine CQ_of (cc := cX2_restore) (maxL := 3) (ret := (some .int)) (by decide) rfl (Nat.le_of_ble_eq_true rfl) (fun p e s m args below meth c A ls hx hb hr hml hlocks hnm hown hts hA hK hN hP hD hS hl => ?_)
  have hown : s.vm.findClass RX2 = some m.cls := hown
  have hl : lv_has ls 3 [(0, .ref (aH 0)), (1, .ref (aP 0))] := hl
  have hC : CallFix p m c cX2_restore 3 s args wsX2_restore RX2 := ⟨hx, hb, hml, hown, hts⟩
  have f11 : (Cond.fieldLink RX2 11 "IcePlant$History" "states" "[LIcePlant$Plant;").before args s = true := hts _ (mC qf_X2_11)
  have f16 : (Cond.fieldLink RX2 16 "IcePlant$History" "count" "I").before args s = true := hts _ (mC qf_X2_16)
  have f20 : (Cond.fieldLink RX2 20 "IcePlant$History" "oldest" "I").before args s = true := hts _ (mC qf_X2_20)
  have iX2 : ∀ w ∈ wsX20, w ∈ wsX2_restore := fun w h => mC (iA_X2 w h)
  unfold f_X2_restore at hE
  refine lv_aload_n hx hb dX2_restore_0 rfl (lv_at hl 0 rfl) ?_
  refine va_get (D := D) (ci := 2) (v := .int (imH 1 0)) (C := RX2) (T := TX2) (N := 3) hx hb hts iX2 hown hK hP 36 rfl rfl 1 (by decide) f16 (fun _ h9 => h9) rfl dX2_restore_1 ?_
  refine lv_if_le (tgt := 44) hx hb dX2_restore_4 (by decide) (fun c_1 => ?_) (fun c_1 => ?_)
  · replace hE := it_t hE c_1
    refine lv_aload_n hx hb dX2_restore_44 rfl (lv_at hl 0 rfl) ?_
    refine va_get (D := D) (ci := 2) (v := .int (imH 1 0)) (C := RX2) (T := TX2) (N := 3) hx hb hts iX2 hown hK hP 36 rfl rfl 1 (by decide) f16 (fun _ h9 => h9) rfl dX2_restore_45 ?_
    have hE := Option.some.inj hE
    obtain ⟨q0, hE⟩ := Prod.mk.inj hE
    obtain ⟨q1, hE⟩ := Prod.mk.inj hE
    obtain ⟨q2, hE⟩ := Prod.mk.inj hE
    obtain ⟨q3, hE⟩ := Prod.mk.inj hE
    obtain ⟨q4, hE⟩ := Prod.mk.inj hE
    obtain ⟨q5, hE⟩ := Prod.mk.inj hE
    obtain ⟨q6, hE⟩ := Prod.mk.inj hE
    obtain ⟨q7, hE⟩ := Prod.mk.inj hE
    obtain ⟨q8, q9⟩ := Prod.mk.inj hE
    exact ei hx hb hr hlocks hK hP hD hS q0 (by rw [q1, q2, q3, q4, q5, q6, q7, q8, q9]) dX2_restore_48
  · replace hE := it_f hE c_1
    refine lv_aload_n hx hb dX2_restore_7 rfl (lv_at hl 0 rfl) ?_
    refine lv_dup hx hb dX2_restore_8 rfl ?_
    refine va_get (D := D) (ci := 2) (v := .int (imH 1 0)) (C := RX2) (T := TX2) (N := 3) hx hb hts iX2 hown hK hP 36 rfl rfl 1 (by decide) f16 (fun _ h9 => h9) rfl dX2_restore_9 ?_
    refine lv_iconst (v := 1) hx hb dX2_restore_12 (by decide) ?_
    refine lv_isub hx hb dX2_restore_13 ?_
    obtain ⟨mH_2, e_mH_2, hE⟩ := lt_el hE
    refine s_pf (own := RX2) (C := RX2) (T := TX2) (N := 3) (ci := 2) (ws1 := ((W_P cy aP aS aB aO aR aA imP inP) ++ ((W_S cy aS imS) ++ ((W_B cy aB imB) ++ ((W_O cy aO imO) ++ ((W_R cy aR imR) ++ ((W_A cy aA imA inA) ++ ((W_H cy aH ah mH_2) ++ (W_HS cy ah ihs))))))))) hx hb hts iX2 tyX2 tyX2_ok nmX2 hown hK hP hD hS 36 rfl rfl 1 (by decide) f16 rfl rfl rfl rfl (Nat.le_of_ble_eq_true rfl) (by rw [e_mH_2]; rfl) dX2_restore_14 (fun H locs hP hD hS => ?_)
    refine lv_aload_n hx hb dX2_restore_17 rfl (lv_at hl 0 rfl) ?_
    refine va_get (D := D) (ci := 2) (v := .ref (aH 3)) (C := RX2) (T := TX2) (N := 3) hx hb hts iX2 hown hK hP 36 rfl rfl 2 (by decide) f11 (fun _ h9 => h9) rfl dX2_restore_18 ?_
    refine lv_aload_n hx hb dX2_restore_21 rfl (lv_at hl 0 rfl) ?_
    refine va_get (D := D) (ci := 2) (v := .int (mH_2 0 0)) (C := RX2) (T := TX2) (N := 3) hx hb hts iX2 hown hK hP 36 rfl rfl 0 (by decide) f20 (fun _ h9 => h9) rfl dX2_restore_22 ?_
    refine lv_aload_n hx hb dX2_restore_25 rfl (lv_at hl 0 rfl) ?_
    refine va_get (D := D) (ci := 2) (v := .int (mH_2 1 0)) (C := RX2) (T := TX2) (N := 3) hx hb hts iX2 hown hK hP 36 rfl rfl 1 (by decide) f16 (fun _ h9 => h9) rfl dX2_restore_26 ?_
    refine lv_iadd hx hb dX2_restore_29 ?_
    refine lv_bipush (v := 8) hx hb dX2_restore_30 (by decide) ?_
    refine lv_irem hx hb dX2_restore_32 (by decide) ?_
    obtain ⟨g_3, hE⟩ := gi_el hE
    refine va_aldq hx hb hK hP 37 3 rfl rfl g_3 dX2_restore_33 ?_
    refine lv_astore_n (lv' := [(2, .ref (ah (((mH_2 0 0) + (mH_2 1 0)) - ((mH_2 0 0) + (mH_2 1 0)) / (8 : Int32) * (8 : Int32)).toNatClampNeg 0 0)), (0, .ref (aH 0)), (1, .ref (aP 0))]) hx hb dX2_restore_34 rfl hl (by decide) rfl (fun ls hl => ?_)
    refine lv_aload_n hx hb dX2_restore_35 rfl (lv_at hl 0 rfl) ?_
    refine lv_ifnull hx hb dX2_restore_36 ?_
    refine lv_aload_n hx hb dX2_restore_39 rfl (lv_at hl 2 rfl) ?_
    refine lv_aload_n hx hb dX2_restore_40 rfl (lv_at hl 0 rfl) ?_
    obtain ⟨mP_5, nP_6, mS_7, mB_8, mO_9, mR_10, mA_11, nA_12, hc_4, hE⟩ := bd8_el hE
    obtain ⟨hX, hY, hXY⟩ := hs_split cy ah ihs 8 (((mH_2 0 0) + (mH_2 1 0)) - ((mH_2 0 0) + (mH_2 1 0)) / (8 : Int32) * (8 : Int32)).toNatClampNeg (Nat.lt_of_not_le (fun q9 => g_3 (Or.inr q9)))
    have e0 : W_HS cy ah ihs = hX ++ (W_Pt cy (ah (((mH_2 0 0) + (mH_2 1 0)) - ((mH_2 0 0) + (mH_2 1 0)) / (8 : Int32) * (8 : Int32)).toNatClampNeg) (ihs (((mH_2 0 0) + (mH_2 1 0)) - ((mH_2 0 0) + (mH_2 1 0)) / (8 : Int32) * (8 : Int32)).toNatClampNeg) ++ hY) := by have h9 := hXY (ihs (((mH_2 0 0) + (mH_2 1 0)) - ((mH_2 0 0) + (mH_2 1 0)) / (8 : Int32) * (8 : Int32)).toNatClampNeg); rw [uph_self] at h9; exact h9
    have e1 : W_HS cy ah ihs = hX ++ (W_Pt cy (ah (((mH_2 0 0) + (mH_2 1 0)) - ((mH_2 0 0) + (mH_2 1 0)) / (8 : Int32) * (8 : Int32)).toNatClampNeg) (ihs (((mH_2 0 0) + (mH_2 1 0)) - ((mH_2 0 0) + (mH_2 1 0)) / (8 : Int32) * (8 : Int32)).toNatClampNeg) ++ hY) := e0
    have eW : ((W_P cy aP aS aB aO aR aA imP inP) ++ ((W_S cy aS imS) ++ ((W_B cy aB imB) ++ ((W_O cy aO imO) ++ ((W_R cy aR imR) ++ ((W_A cy aA imA inA) ++ ((W_H cy aH ah mH_2) ++ (W_HS cy ah ihs)))))))) = (W_Pl cy aP aS aB aO aR aA imP inP imS imB imO imR imA inA) ++ ((W_H cy aH ah mH_2) ++ (hX ++ (W_Pt cy (ah (((mH_2 0 0) + (mH_2 1 0)) - ((mH_2 0 0) + (mH_2 1 0)) / (8 : Int32) * (8 : Int32)).toNatClampNeg) (ihs (((mH_2 0 0) + (mH_2 1 0)) - ((mH_2 0 0) + (mH_2 1 0)) / (8 : Int32) * (8 : Int32)).toNatClampNeg) ++ hY))) := by rw [e0]; rfl
    have hP2 := va_P_perm (hpm2 (W_Pl cy aP aS aB aO aR aA imP inP imS imB imO imR imA inA) (W_H cy aH ah mH_2) hX (W_Pt cy (ah (((mH_2 0 0) + (mH_2 1 0)) - ((mH_2 0 0) + (mH_2 1 0)) / (8 : Int32) * (8 : Int32)).toNatClampNeg) (ihs (((mH_2 0 0) + (mH_2 1 0)) - ((mH_2 0 0) + (mH_2 1 0)) / (8 : Int32) * (8 : Int32)).toNatClampNeg)) hY) (eW ▸ hP)
    have hD2 := va_D_perm (hpm2 (W_Pl cy aP aS aB aO aR aA imP inP imS imB imO imR imA inA) (W_H cy aH ah mH_2) hX (W_Pt cy (ah (((mH_2 0 0) + (mH_2 1 0)) - ((mH_2 0 0) + (mH_2 1 0)) / (8 : Int32) * (8 : Int32)).toNatClampNeg) (ihs (((mH_2 0 0) + (mH_2 1 0)) - ((mH_2 0 0) + (mH_2 1 0)) / (8 : Int32) * (8 : Int32)).toNatClampNeg)) hY) (eW ▸ hD)
    refine kv (X := []) (Y := (W_H cy aH ah mH_2) ++ (hX ++ hY)) (ws1 := [] ++ (((W_Pl cy aP aS aB aO aR aA mP_5 nP_6 mS_7 mB_8 mO_9 mR_10 mA_11 nA_12) ++ (W_Pt cy (ah (((mH_2 0 0) + (mH_2 1 0)) - ((mH_2 0 0) + (mH_2 1 0)) / (8 : Int32) * (8 : Int32)).toNatClampNeg) (ihs (((mH_2 0 0) + (mH_2 1 0)) - ((mH_2 0 0) + (mH_2 1 0)) / (8 : Int32) * (8 : Int32)).toNatClampNeg))) ++ ((W_H cy aH ah mH_2) ++ (hX ++ hY)))) (rV (X := []) (Y := (W_H cy aH ah mH_2) ++ (hX ++ hY)) (As := [.ref (ah (((mH_2 0 0) + (mH_2 1 0)) - ((mH_2 0 0) + (mH_2 1 0)) / (8 : Int32) * (8 : Int32)).toNatClampNeg 0 0)]) (rest := []) hC (c_X4_copyFrom l D cy aP aS aB aO aR aA (ah (((mH_2 0 0) + (mH_2 1 0)) - ((mH_2 0 0) + (mH_2 1 0)) / (8 : Int32) * (8 : Int32)).toNatClampNeg 0) (ah (((mH_2 0 0) + (mH_2 1 0)) - ((mH_2 0 0) + (mH_2 1 0)) / (8 : Int32) * (8 : Int32)).toNatClampNeg 1) (ah (((mH_2 0 0) + (mH_2 1 0)) - ((mH_2 0 0) + (mH_2 1 0)) / (8 : Int32) * (8 : Int32)).toNatClampNeg 2) (ah (((mH_2 0 0) + (mH_2 1 0)) - ((mH_2 0 0) + (mH_2 1 0)) / (8 : Int32) * (8 : Int32)).toNatClampNeg 3) (ah (((mH_2 0 0) + (mH_2 1 0)) - ((mH_2 0 0) + (mH_2 1 0)) / (8 : Int32) * (8 : Int32)).toNatClampNeg 4) (ah (((mH_2 0 0) + (mH_2 1 0)) - ((mH_2 0 0) + (mH_2 1 0)) / (8 : Int32) * (8 : Int32)).toNatClampNeg 5) imP inP imS imB imO imR imA inA (ihs (((mH_2 0 0) + (mH_2 1 0)) - ((mH_2 0 0) + (mH_2 1 0)) / (8 : Int32) * (8 : Int32)).toNatClampNeg).1 (ihs (((mH_2 0 0) + (mH_2 1 0)) - ((mH_2 0 0) + (mH_2 1 0)) / (8 : Int32) * (8 : Int32)).toNatClampNeg).2.1 (ihs (((mH_2 0 0) + (mH_2 1 0)) - ((mH_2 0 0) + (mH_2 1 0)) / (8 : Int32) * (8 : Int32)).toNatClampNeg).2.2.1 (ihs (((mH_2 0 0) + (mH_2 1 0)) - ((mH_2 0 0) + (mH_2 1 0)) / (8 : Int32) * (8 : Int32)).toNatClampNeg).2.2.2.1 (ihs (((mH_2 0 0) + (mH_2 1 0)) - ((mH_2 0 0) + (mH_2 1 0)) / (8 : Int32) * (8 : Int32)).toNatClampNeg).2.2.2.2.1 (ihs (((mH_2 0 0) + (mH_2 1 0)) - ((mH_2 0 0) + (mH_2 1 0)) / (8 : Int32) * (8 : Int32)).toNatClampNeg).2.2.2.2.2.1 (ihs (((mH_2 0 0) + (mH_2 1 0)) - ((mH_2 0 0) + (mH_2 1 0)) / (8 : Int32) * (8 : Int32)).toNatClampNeg).2.2.2.2.2.2.1 (ihs (((mH_2 0 0) + (mH_2 1 0)) - ((mH_2 0 0) + (mH_2 1 0)) / (8 : Int32) * (8 : Int32)).toNatClampNeg).2.2.2.2.2.2.2 mP_5 nP_6 mS_7 mB_8 mO_9 mR_10 mA_11 nA_12 hc_4) (cwV 1 hts gX2_restore_X4_copyFrom rfl rfl rfl cd_X4_copyFrom ⟨Nat.le_of_ble_eq_true rfl, Nat.le_of_ble_eq_true rfl⟩) hK hN hP2 hD2 hS hA rfl 0 4 rfl rfl rfl hl.1 rfl (lv_room (Nat.le_of_ble_eq_true rfl)) dX2_restore_41 ⟨Nat.le_of_ble_eq_true rfl, Nat.le_of_ble_eq_true rfl⟩) hP2 hD2 hS hA rfl rfl rfl (fun H locs hP hD hS => ?_)
    have e9 : (W_Pl cy aP aS aB aO aR aA mP_5 nP_6 mS_7 mB_8 mO_9 mR_10 mA_11 nA_12) ++ ((W_H cy aH ah mH_2) ++ (hX ++ (W_Pt cy (ah (((mH_2 0 0) + (mH_2 1 0)) - ((mH_2 0 0) + (mH_2 1 0)) / (8 : Int32) * (8 : Int32)).toNatClampNeg) (ihs (((mH_2 0 0) + (mH_2 1 0)) - ((mH_2 0 0) + (mH_2 1 0)) / (8 : Int32) * (8 : Int32)).toNatClampNeg) ++ hY))) = ((W_P cy aP aS aB aO aR aA mP_5 nP_6) ++ ((W_S cy aS mS_7) ++ ((W_B cy aB mB_8) ++ ((W_O cy aO mO_9) ++ ((W_R cy aR mR_10) ++ ((W_A cy aA mA_11 nA_12) ++ ((W_H cy aH ah mH_2) ++ (W_HS cy ah ihs)))))))) := by rw [e1]; rfl
    have hP := va_P_perm (hpm2 (W_Pl cy aP aS aB aO aR aA mP_5 nP_6 mS_7 mB_8 mO_9 mR_10 mA_11 nA_12) (W_H cy aH ah mH_2) hX (W_Pt cy (ah (((mH_2 0 0) + (mH_2 1 0)) - ((mH_2 0 0) + (mH_2 1 0)) / (8 : Int32) * (8 : Int32)).toNatClampNeg) (ihs (((mH_2 0 0) + (mH_2 1 0)) - ((mH_2 0 0) + (mH_2 1 0)) / (8 : Int32) * (8 : Int32)).toNatClampNeg)) hY).symm hP
    have hD := va_D_perm (hpm2 (W_Pl cy aP aS aB aO aR aA mP_5 nP_6 mS_7 mB_8 mO_9 mR_10 mA_11 nA_12) (W_H cy aH ah mH_2) hX (W_Pt cy (ah (((mH_2 0 0) + (mH_2 1 0)) - ((mH_2 0 0) + (mH_2 1 0)) / (8 : Int32) * (8 : Int32)).toNatClampNeg) (ihs (((mH_2 0 0) + (mH_2 1 0)) - ((mH_2 0 0) + (mH_2 1 0)) / (8 : Int32) * (8 : Int32)).toNatClampNeg)) hY).symm hD
    rw [e9] at hP hD
    refine lv_aload_n hx hb dX2_restore_44 rfl (lv_at hl 1 rfl) ?_
    refine va_get (D := D) (ci := 2) (v := .int (mH_2 1 0)) (C := RX2) (T := TX2) (N := 3) hx hb hts iX2 hown hK hP 36 rfl rfl 1 (by decide) f16 (fun _ h9 => h9) rfl dX2_restore_45 ?_
    have hE := Option.some.inj hE
    obtain ⟨q0, hE⟩ := Prod.mk.inj hE
    obtain ⟨q1, hE⟩ := Prod.mk.inj hE
    obtain ⟨q2, hE⟩ := Prod.mk.inj hE
    obtain ⟨q3, hE⟩ := Prod.mk.inj hE
    obtain ⟨q4, hE⟩ := Prod.mk.inj hE
    obtain ⟨q5, hE⟩ := Prod.mk.inj hE
    obtain ⟨q6, hE⟩ := Prod.mk.inj hE
    obtain ⟨q7, hE⟩ := Prod.mk.inj hE
    obtain ⟨q8, q9⟩ := Prod.mk.inj hE
    exact ei hx hb hr hlocks hK hP hD hS q0 (by rw [q1, q2, q3, q4, q5, q6, q7, q8, q9]) dX2_restore_48
