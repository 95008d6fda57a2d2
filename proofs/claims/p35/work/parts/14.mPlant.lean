abbrev rm_X4_produce : Room := { frames := 2, cells := 0, slots := 0, locals := 46 }
set_option maxHeartbeats 40000000 in
set_option maxRecDepth 100000 in
theorem c_X4_produce (l : Launch) (D : va_G) (cy : Nat → Nat) (aP aS aB aO aR aA : Nat → Nat) (imP : Mem) (inP : MemL) (imS : Mem) (imB : Mem) (imO : Mem) (imR : Mem) (imA : Mem) (inA : MemL) (mP' : Mem) (mS' : Mem) (hE : f_X4_produce imP inP imS imB imO imR imA inA = some (mP', mS')) : CV l yX4_produce wsX4_produce rm_X4_produce D cy [.ref (aP 0)] (W_Pl cy aP aS aB aO aR aA imP inP imS imB imO imR imA inA) 0 0 (W_Pl cy aP aS aB aO aR aA mP' inP mS' imB imO imR imA inA) := by
  refine CQ_of (cc := cX4_produce) (maxL := 2) (ret := none) (by decide) rfl (Nat.le_of_ble_eq_true rfl) (fun p e s m args below meth c A ls hx hb hr hml hlocks hnm hown hts hA hK hN hP hD hS hl => ?_)
  have hown : s.vm.findClass RX4 = some m.cls := hown
  have hl : lv_has ls 2 [(0, .ref (aP 0))] := hl
  have hC : CallFix p m c cX4_produce 2 s args wsX4_produce RX4 := ⟨hx, hb, hml, hown, hts⟩
  have f9 : (Cond.fieldLink RX4 9 "IcePlant$Plant" "settings" "[I").before args s = true := hts _ (mC qf_X4_9)
  have f28 : (Cond.fieldLink RX4 28 "IcePlant$Plant" "store" "LIcePlant$Store;").before args s = true := hts _ (mC qf_X4_28)
  have f80 : (Cond.fieldLink RX4 80 "IcePlant$Plant" "madeMass" "I").before args s = true := hts _ (mC qf_X4_80)
  have f86 : (Cond.fieldLink RX4 86 "IcePlant$Plant" "missedBlocks" "I").before args s = true := hts _ (mC qf_X4_86)
  have iX4 : ∀ w ∈ wsX40, w ∈ wsX4_produce := fun w h => mC (iA_X4 w h)
  have h56 : ∀ (x1 : Int32) (mP : Mem) (mS : Mem), ∀ (k2 : (Int32 → Mem → Mem → Option (Mem × Mem))), (∀ (x1 : Int32) (mP : Mem) (mS : Mem) (H : Heap) (locs : List Loc) (ls : Array Slot), k2 x1 mP mS = some (mP', mS') → va_P D vwCl (W_Pl cy aP aS aB aO aR aA mP inP mS imB imO imR imA inA) H → va_D A (W_Pl cy aP aS aB aO aR aA mP inP mS imB imO imR imA inA) → va_S A s.heap H locs → lv_has ls 2 [(0, .ref (aP 0)), (1, .int x1)] → W p l e rm_X4_produce s m args below meth c H locs 0 0 (MQ below (QV D cy (W_Pl cy aP aS aB aO aR aA mP' inP mS' imB imO imR imA inA) A) args s 0 0 A) (F0 m 2 ls [])) → ∀  (H : Heap) (locs : List Loc) (ls : Array Slot), f_X4_produce_b56 k2 x1 mP inP mS imB imO imR imA inA = some (mP', mS') → va_P D vwCl (W_Pl cy aP aS aB aO aR aA mP inP mS imB imO imR imA inA) H → va_D A (W_Pl cy aP aS aB aO aR aA mP inP mS imB imO imR imA inA) → va_S A s.heap H locs → lv_has ls 2 [(0, .ref (aP 0)), (1, .int x1)] → W p l e rm_X4_produce s m args below meth c H locs 0 0 (MQ below (QV D cy (W_Pl cy aP aS aB aO aR aA mP' inP mS' imB imO imR imA inA) A) args s 0 0 A) (F0 m 56 ls []) := by
    intro x1 mP mS k2 hk2 H locs ls hE hP hD hS hl
    replace hE : (lt' (x1 + (1 : Int32)) fun x1_1 => k2 x1_1 mP mS) = some (mP', mS') := hE
    obtain ⟨x1_1, e_x1_1, hE⟩ := lt_el hE
    refine lv_iinc (v := x1_1) (lv' := [(1, .int x1_1), (0, .ref (aP 0))]) hx hb dX4_produce_56 hl (k := 1) rfl (by rw [e_x1_1]; rfl) (by decide) rfl (fun ls hl => ?_)
    refine lv_goto (tgt := 2) hx hb dX4_produce_59 (by decide) ?_
    exact hk2 x1_1 mP mS _ _ _ hE hP hD hS (lv_sub hl [1, 0] rfl)
  have h2 : ∀ (n : Nat), ∀ (x1 : Int32) (mP : Mem) (mS : Mem) (H : Heap) (locs : List Loc) (ls : Array Slot), f_X4_produce_L2 inP imB imO imR imA inA n x1 mP mS = some (mP', mS') → va_P D vwCl (W_Pl cy aP aS aB aO aR aA mP inP mS imB imO imR imA inA) H → va_D A (W_Pl cy aP aS aB aO aR aA mP inP mS imB imO imR imA inA) → va_S A s.heap H locs → lv_has ls 2 [(0, .ref (aP 0)), (1, .int x1)] → W p l e rm_X4_produce s m args below meth c H locs 0 0 (MQ below (QV D cy (W_Pl cy aP aS aB aO aR aA mP' inP mS' imB imO imR imA inA) A) args s 0 0 A) (F0 m 2 ls []) := by
    intro n
    induction n with
    | zero => intro x1 mP mS H locs ls hE; exact absurd hE (fun h9 => nomatch h9)
    | succ n ih =>
      intro x1 mP mS H locs ls hE hP hD hS hl
      replace hE : ((if (mP 0 (1 : Int32).toNatClampNeg) ≤ x1 then some (mP, mS) else bd2 (f_X6_makeBlock (mP 0 (0 : Int32).toNatClampNeg) mS) fun r_3 mS_4 => (if r_3 = 0 then lt' (wrI mP 10 (fun _ => ((mP 10 0) + (1 : Int32)))) fun mP_7 => f_X4_produce_b56 (f_X4_produce_L2 inP imB imO imR imA inA n) x1 mP_7 inP mS_4 imB imO imR imA inA else lt' (wrI mP 8 (fun _ => ((mP 8 0) + (mP 0 (0 : Int32).toNatClampNeg)))) fun mP_8 => f_X4_produce_b56 (f_X4_produce_L2 inP imB imO imR imA inA n) x1 mP_8 inP mS_4 imB imO imR imA inA))) = some (mP', mS') := hE
      refine lv_iload_n hx hb dX4_produce_2 rfl (lv_at hl 1 rfl) ?_
      refine lv_aload_n hx hb dX4_produce_3 rfl (lv_at hl 0 rfl) ?_
      refine va_get (D := D) (ci := 4) (v := .ref (aP 1)) (C := RX4) (T := TX4) (N := 13) hx hb hts iX4 hown hK hP 0 rfl rfl 0 (by decide) f9 (fun _ h9 => h9) rfl dX4_produce_4 ?_
      refine lv_iconst (v := 1) hx hb dX4_produce_7 (by decide) ?_
      refine va_iald hx hb hK hP 1 0 rfl rfl (show ¬ ((1 : Int32) < 0 ∨ 8 ≤ (1 : Int32).toNatClampNeg) by decide) dX4_produce_8 ?_
      refine lv_icmp_ge (tgt := 62) hx hb dX4_produce_9 (by decide) (fun c_2 => ?_) (fun c_2 => ?_)
      · replace hE := it_t hE c_2
        have hE := Option.some.inj hE
        obtain ⟨q0, q1⟩ := Prod.mk.inj hE
        exact ev hx hb hr hlocks hK hP hD hS (by rw [q0, q1]) dX4_produce_62
      · replace hE := it_f hE c_2
        refine lv_aload_n hx hb dX4_produce_12 rfl (lv_at hl 0 rfl) ?_
        refine va_get (D := D) (ci := 4) (v := .ref (aS 0)) (C := RX4) (T := TX4) (N := 13) hx hb hts iX4 hown hK hP 0 rfl rfl 2 (by decide) f28 (fun _ h9 => h9) rfl dX4_produce_13 ?_
        refine lv_aload_n hx hb dX4_produce_16 rfl (lv_at hl 0 rfl) ?_
        refine va_get (D := D) (ci := 4) (v := .ref (aP 1)) (C := RX4) (T := TX4) (N := 13) hx hb hts iX4 hown hK hP 0 rfl rfl 0 (by decide) f9 (fun _ h9 => h9) rfl dX4_produce_17 ?_
        refine lv_iconst (v := 0) hx hb dX4_produce_20 (by decide) ?_
        refine va_iald hx hb hK hP 1 0 rfl rfl (show ¬ ((0 : Int32) < 0 ∨ 8 ≤ (0 : Int32).toNatClampNeg) by decide) dX4_produce_21 ?_
        obtain ⟨r_3, mS_4, hc_5, hE⟩ := bd2_el hE
        refine ki (X := (W_P cy aP aS aB aO aR aA mP inP)) (Y := ((W_B cy aB imB) ++ ((W_O cy aO imO) ++ ((W_R cy aR imR) ++ (W_A cy aA imA inA))))) (ws1 := (W_Pl cy aP aS aB aO aR aA mP inP mS_4 imB imO imR imA inA)) (rV (X := (W_P cy aP aS aB aO aR aA mP inP)) (Y := ((W_B cy aB imB) ++ ((W_O cy aO imO) ++ ((W_R cy aR imR) ++ (W_A cy aA imA inA))))) (As := [.int (mP 0 (0 : Int32).toNatClampNeg)]) (rest := []) hC (c_X6_makeBlock l D cy aS (mP 0 (0 : Int32).toNatClampNeg) mS r_3 mS_4 hc_5) (cwV 1 hts gX4_produce_X6_makeBlock rfl rfl rfl cd_X6_makeBlock ⟨Nat.le_of_ble_eq_true rfl, Nat.le_of_ble_eq_true rfl⟩) hK hN hP hD hS hA rfl 0 6 rfl rfl rfl hl.1 rfl (lv_room (Nat.le_of_ble_eq_true rfl)) dX4_produce_22 ⟨Nat.le_of_ble_eq_true rfl, Nat.le_of_ble_eq_true rfl⟩) hP hD hS hA rfl rfl rfl (fun H locs hP hD hS => ?_)
        refine lv_if_eq (tgt := 46) hx hb dX4_produce_25 (by decide) (fun c_6 => ?_) (fun c_6 => ?_)
        · replace hE := it_t hE c_6
          refine lv_aload_n hx hb dX4_produce_46 rfl (lv_at hl 0 rfl) ?_
          refine lv_dup hx hb dX4_produce_47 rfl ?_
          refine va_get (D := D) (ci := 4) (v := .int (mP 10 0)) (C := RX4) (T := TX4) (N := 13) hx hb hts iX4 hown hK hP 0 rfl rfl 10 (by decide) f86 (fun _ h9 => h9) rfl dX4_produce_48 ?_
          refine lv_iconst (v := 1) hx hb dX4_produce_51 (by decide) ?_
          refine lv_iadd hx hb dX4_produce_52 ?_
          obtain ⟨mP_7, e_mP_7, hE⟩ := lt_el hE
          refine s_pf (own := RX4) (C := RX4) (T := TX4) (N := 13) (ci := 4) (ws1 := (W_Pl cy aP aS aB aO aR aA mP_7 inP mS_4 imB imO imR imA inA)) hx hb hts iX4 tyX4 tyX4_ok nmX4 hown hK hP hD hS 0 rfl rfl 10 (by decide) f86 rfl rfl rfl rfl (Nat.le_of_ble_eq_true rfl) (by rw [e_mP_7]; rfl) dX4_produce_53 (fun H locs hP hD hS => ?_)
          exact h56 x1 mP_7 mS_4 (f_X4_produce_L2 inP imB imO imR imA inA n) ih _ _ _ hE hP hD hS (lv_sub hl [0, 1] rfl)
        · replace hE := it_f hE c_6
          refine lv_aload_n hx hb dX4_produce_28 rfl (lv_at hl 0 rfl) ?_
          refine lv_dup hx hb dX4_produce_29 rfl ?_
          refine va_get (D := D) (ci := 4) (v := .int (mP 8 0)) (C := RX4) (T := TX4) (N := 13) hx hb hts iX4 hown hK hP 0 rfl rfl 8 (by decide) f80 (fun _ h9 => h9) rfl dX4_produce_30 ?_
          refine lv_aload_n hx hb dX4_produce_33 rfl (lv_at hl 0 rfl) ?_
          refine va_get (D := D) (ci := 4) (v := .ref (aP 1)) (C := RX4) (T := TX4) (N := 13) hx hb hts iX4 hown hK hP 0 rfl rfl 0 (by decide) f9 (fun _ h9 => h9) rfl dX4_produce_34 ?_
          refine lv_iconst (v := 0) hx hb dX4_produce_37 (by decide) ?_
          refine va_iald hx hb hK hP 1 0 rfl rfl (show ¬ ((0 : Int32) < 0 ∨ 8 ≤ (0 : Int32).toNatClampNeg) by decide) dX4_produce_38 ?_
          refine lv_iadd hx hb dX4_produce_39 ?_
          obtain ⟨mP_8, e_mP_8, hE⟩ := lt_el hE
          refine s_pf (own := RX4) (C := RX4) (T := TX4) (N := 13) (ci := 4) (ws1 := (W_Pl cy aP aS aB aO aR aA mP_8 inP mS_4 imB imO imR imA inA)) hx hb hts iX4 tyX4 tyX4_ok nmX4 hown hK hP hD hS 0 rfl rfl 8 (by decide) f80 rfl rfl rfl rfl (Nat.le_of_ble_eq_true rfl) (by rw [e_mP_8]; rfl) dX4_produce_40 (fun H locs hP hD hS => ?_)
          refine lv_goto (tgt := 56) hx hb dX4_produce_43 (by decide) ?_
          exact h56 x1 mP_8 mS_4 (f_X4_produce_L2 inP imB imO imR imA inA n) ih _ _ _ hE hP hD hS (lv_sub hl [0, 1] rfl)
  unfold f_X4_produce at hE
  refine lv_iconst (v := 0) hx hb dX4_produce_0 (by decide) ?_
  refine lv_istore_n (lv' := [(1, .int (0 : Int32)), (0, .ref (aP 0))]) hx hb dX4_produce_1 rfl hl (by decide) rfl (fun ls hl => ?_)
  exact h2 fuel (0 : Int32) imP imS _ _ _ hE hP hD hS (lv_sub hl [1, 0] rfl)
abbrev rm_X4_isSkipped : Room := { frames := 2, cells := 0, slots := 0, locals := 47 }
set_option maxHeartbeats 40000000 in
set_option maxRecDepth 100000 in
theorem c_X4_isSkipped (l : Launch) (D : va_G) (cy : Nat → Nat) (aP aS aB aO aR aA : Nat → Nat) (x1 : Int32) (x2 : Int32) (imP : Mem) (inP : MemL) (imS : Mem) (imB : Mem) (imO : Mem) (imR : Mem) (imA : Mem) (inA : MemL) (r' : Int32) (hE : f_X4_isSkipped x1 x2 imP inP imS imB imO imR imA inA = some r') : CI l yX4_isSkipped wsX4_isSkipped rm_X4_isSkipped D cy [.ref (aP 0), .int x1, .int x2] (W_Pl cy aP aS aB aO aR aA imP inP imS imB imO imR imA inA) 0 0 r' (W_Pl cy aP aS aB aO aR aA imP inP imS imB imO imR imA inA) := by
  refine CQ_of (cc := cX4_isSkipped) (maxL := 3) (ret := (some .boolean)) (by decide) rfl (Nat.le_of_ble_eq_true rfl) (fun p e s m args below meth c A ls hx hb hr hml hlocks hnm hown hts hA hK hN hP hD hS hl => ?_)
  have hown : s.vm.findClass RX4 = some m.cls := hown
  have hl : lv_has ls 3 [(0, .ref (aP 0)), (1, .int x1), (2, .int x2)] := hl
  have hC : CallFix p m c cX4_isSkipped 3 s args wsX4_isSkipped RX4 := ⟨hx, hb, hml, hown, hts⟩
  have f9 : (Cond.fieldLink RX4 9 "IcePlant$Plant" "settings" "[I").before args s = true := hts _ (mC qf_X4_9)
  have f28 : (Cond.fieldLink RX4 28 "IcePlant$Plant" "store" "LIcePlant$Store;").before args s = true := hts _ (mC qf_X4_28)
  have f35 : (Cond.fieldLink RX4 35 "IcePlant$Plant" "boats" "LIcePlant$Boats;").before args s = true := hts _ (mC qf_X4_35)
  have f42 : (Cond.fieldLink RX4 42 "IcePlant$Plant" "orders" "LIcePlant$Orders;").before args s = true := hts _ (mC qf_X4_42)
  have f166 : (Cond.fieldLink RX4 166 "IcePlant$Boats" "debts" "[I").before args s = true := hts _ (mC qf_X4_166)
  have iX1 : ∀ w ∈ wsX10, w ∈ wsX4_isSkipped := fun w h => mC (iA_X1 w h)
  have iX4 : ∀ w ∈ wsX40, w ∈ wsX4_isSkipped := fun w h => mC (iA_X4 w h)
  have in_X8 : (Cond.initialized RX8).before args s = true := hts _ (mC qn_X8)
  have st_X8_valueAt : (Cond.static yX8_valueAt).before args s = true := hts _ (mC qs_X8_valueAt)
  unfold f_X4_isSkipped at hE
  refine lv_aload_n hx hb dX4_isSkipped_0 rfl (lv_at hl 0 rfl) ?_
  refine va_get (D := D) (ci := 4) (v := .ref (aB 0)) (C := RX4) (T := TX4) (N := 13) hx hb hts iX4 hown hK hP 0 rfl rfl 3 (by decide) f35 (fun _ h9 => h9) rfl dX4_isSkipped_1 ?_
  refine va_get (D := D) (ci := 1) (v := .ref (aB 3)) (C := RX1) (T := TX1) (N := 4) hx hb hts iX1 hown hK hP 12 rfl rfl 2 (by decide) f166 (fun _ h9 => h9) rfl dX4_isSkipped_4 ?_
  refine lv_iload_n hx hb dX4_isSkipped_7 rfl (lv_at hl 2 rfl) ?_
  obtain ⟨r_1, hc_2, hE⟩ := bd1_el hE
  refine ki (X := (List.take 14 (W_Pl cy aP aS aB aO aR aA imP inP imS imB imO imR imA inA))) (Y := (List.drop 15 (W_Pl cy aP aS aB aO aR aA imP inP imS imB imO imR imA inA))) (ws1 := (W_Pl cy aP aS aB aO aR aA imP inP imS imB imO imR imA inA)) (rSN (X := (List.take 14 (W_Pl cy aP aS aB aO aR aA imP inP imS imB imO imR imA inA))) (Y := (List.drop 15 (W_Pl cy aP aS aB aO aR aA imP inP imS imB imO imR imA inA))) (As := [.ref (aB 3), .int x2]) (rest := []) hC (c_X8_valueAt l D cy (aB 3) x2 (8) (imB 2) r_1 hc_2) (va_cnB 2 hts gX4_isSkipped_X8_valueAt_n99 rfl rfl rfl (hN.1 7 _ rfl) in_X8 cd_X8_valueAt.2 ⟨Nat.le_of_ble_eq_true rfl, Nat.le_of_ble_eq_true rfl⟩) st_X8_valueAt hK hN hP hD hS hA rfl rfl hl.1 rfl (lv_room (Nat.le_of_ble_eq_true rfl)) dX4_isSkipped_8 ⟨Nat.le_of_ble_eq_true rfl, Nat.le_of_ble_eq_true rfl⟩) hP hD hS hA rfl rfl rfl (fun H locs hP hD hS => ?_)
  refine lv_aload_n hx hb dX4_isSkipped_11 rfl (lv_at hl 0 rfl) ?_
  refine va_get (D := D) (ci := 4) (v := .ref (aP 1)) (C := RX4) (T := TX4) (N := 13) hx hb hts iX4 hown hK hP 0 rfl rfl 0 (by decide) f9 (fun _ h9 => h9) rfl dX4_isSkipped_12 ?_
  refine lv_iconst (v := 3) hx hb dX4_isSkipped_15 (by decide) ?_
  refine va_iald hx hb hK hP 1 0 rfl rfl (show ¬ ((3 : Int32) < 0 ∨ 8 ≤ (3 : Int32).toNatClampNeg) by decide) dX4_isSkipped_16 ?_
  refine lv_icmp_le (tgt := 22) hx hb dX4_isSkipped_17 (by decide) (fun c_3 => ?_) (fun c_3 => ?_)
  · replace hE := it_t hE c_3
    refine lv_aload_n hx hb dX4_isSkipped_22 rfl (lv_at hl 0 rfl) ?_
    refine va_get (D := D) (ci := 4) (v := .ref (aO 0)) (C := RX4) (T := TX4) (N := 13) hx hb hts iX4 hown hK hP 0 rfl rfl 4 (by decide) f42 (fun _ h9 => h9) rfl dX4_isSkipped_23 ?_
    refine lv_iload_n hx hb dX4_isSkipped_26 rfl (lv_at hl 1 rfl) ?_
    obtain ⟨r_4, hc_5, hE⟩ := bd1_el hE
    refine ki (X := ((W_P cy aP aS aB aO aR aA imP inP) ++ ((W_S cy aS imS) ++ (W_B cy aB imB)))) (Y := ((W_R cy aR imR) ++ (W_A cy aA imA inA))) (ws1 := (W_Pl cy aP aS aB aO aR aA imP inP imS imB imO imR imA inA)) (rV (X := ((W_P cy aP aS aB aO aR aA imP inP) ++ ((W_S cy aS imS) ++ (W_B cy aB imB)))) (Y := ((W_R cy aR imR) ++ (W_A cy aA imA inA))) (As := [.int x1]) (rest := []) hC (c_X3_isWhole l D cy aO x1 imO r_4 hc_5) (cwV 1 hts gX4_isSkipped_X3_isWhole rfl rfl rfl cd_X3_isWhole ⟨Nat.le_of_ble_eq_true rfl, Nat.le_of_ble_eq_true rfl⟩) hK hN hP hD hS hA rfl 0 3 rfl rfl rfl hl.1 rfl (lv_room (Nat.le_of_ble_eq_true rfl)) dX4_isSkipped_27 ⟨Nat.le_of_ble_eq_true rfl, Nat.le_of_ble_eq_true rfl⟩) hP hD hS hA rfl rfl rfl (fun H locs hP hD hS => ?_)
    refine lv_if_eq (tgt := 55) hx hb dX4_isSkipped_30 (by decide) (fun c_6 => ?_) (fun c_6 => ?_)
    · replace hE := it_t hE c_6
      refine lv_iconst (v := 0) hx hb dX4_isSkipped_55 (by decide) ?_
      have hE := Option.some.inj hE
      exact ez hx hb hr (by decide) hlocks hK hP hD hS hE rfl dX4_isSkipped_56
    · replace hE := it_f hE c_6
      refine lv_aload_n hx hb dX4_isSkipped_33 rfl (lv_at hl 0 rfl) ?_
      refine va_get (D := D) (ci := 4) (v := .ref (aS 0)) (C := RX4) (T := TX4) (N := 13) hx hb hts iX4 hown hK hP 0 rfl rfl 2 (by decide) f28 (fun _ h9 => h9) rfl dX4_isSkipped_34 ?_
      obtain ⟨r_7, hc_8, hE⟩ := bd1_el hE
      refine ki (X := (W_P cy aP aS aB aO aR aA imP inP)) (Y := ((W_B cy aB imB) ++ ((W_O cy aO imO) ++ ((W_R cy aR imR) ++ (W_A cy aA imA inA))))) (ws1 := (W_Pl cy aP aS aB aO aR aA imP inP imS imB imO imR imA inA)) (rV (X := (W_P cy aP aS aB aO aR aA imP inP)) (Y := ((W_B cy aB imB) ++ ((W_O cy aO imO) ++ ((W_R cy aR imR) ++ (W_A cy aA imA inA))))) (As := []) (rest := []) hC (c_X6_mass l D cy aS imS r_7 hc_8) (cwV 0 hts gX4_isSkipped_X6_mass rfl rfl rfl cd_X6_mass ⟨Nat.le_of_ble_eq_true rfl, Nat.le_of_ble_eq_true rfl⟩) hK hN hP hD hS hA rfl 0 6 rfl rfl rfl hl.1 rfl (lv_room (Nat.le_of_ble_eq_true rfl)) dX4_isSkipped_37 ⟨Nat.le_of_ble_eq_true rfl, Nat.le_of_ble_eq_true rfl⟩) hP hD hS hA rfl rfl rfl (fun H locs hP hD hS => ?_)
      refine lv_aload_n hx hb dX4_isSkipped_40 rfl (lv_at hl 0 rfl) ?_
      refine va_get (D := D) (ci := 4) (v := .ref (aO 0)) (C := RX4) (T := TX4) (N := 13) hx hb hts iX4 hown hK hP 0 rfl rfl 4 (by decide) f42 (fun _ h9 => h9) rfl dX4_isSkipped_41 ?_
      refine lv_iload_n hx hb dX4_isSkipped_44 rfl (lv_at hl 1 rfl) ?_
      obtain ⟨r_9, hc_10, hE⟩ := bd1_el hE
      refine ki (X := ((W_P cy aP aS aB aO aR aA imP inP) ++ ((W_S cy aS imS) ++ (W_B cy aB imB)))) (Y := ((W_R cy aR imR) ++ (W_A cy aA imA inA))) (ws1 := (W_Pl cy aP aS aB aO aR aA imP inP imS imB imO imR imA inA)) (rV (X := ((W_P cy aP aS aB aO aR aA imP inP) ++ ((W_S cy aS imS) ++ (W_B cy aB imB)))) (Y := ((W_R cy aR imR) ++ (W_A cy aA imA inA))) (As := [.int x1]) (rest := [.int r_7]) hC (c_X3_remaining l D cy aO x1 imO r_9 hc_10) (cwV 1 hts gX4_isSkipped_X3_remaining rfl rfl rfl cd_X3_remaining ⟨Nat.le_of_ble_eq_true rfl, Nat.le_of_ble_eq_true rfl⟩) hK hN hP hD hS hA rfl 0 3 rfl rfl rfl hl.1 rfl (lv_room (Nat.le_of_ble_eq_true rfl)) dX4_isSkipped_45 ⟨Nat.le_of_ble_eq_true rfl, Nat.le_of_ble_eq_true rfl⟩) hP hD hS hA rfl rfl rfl (fun H locs hP hD hS => ?_)
      refine lv_icmp_ge (tgt := 55) hx hb dX4_isSkipped_48 (by decide) (fun c_11 => ?_) (fun c_11 => ?_)
      · replace hE := it_t hE c_11
        refine lv_iconst (v := 0) hx hb dX4_isSkipped_55 (by decide) ?_
        have hE := Option.some.inj hE
        exact ez hx hb hr (by decide) hlocks hK hP hD hS hE rfl dX4_isSkipped_56
      · replace hE := it_f hE c_11
        refine lv_iconst (v := 1) hx hb dX4_isSkipped_51 (by decide) ?_
        refine lv_goto (tgt := 56) hx hb dX4_isSkipped_52 (by decide) ?_
        have hE := Option.some.inj hE
        exact ez hx hb hr (by decide) hlocks hK hP hD hS hE rfl dX4_isSkipped_56
  · replace hE := it_f hE c_3
    refine lv_iconst (v := 1) hx hb dX4_isSkipped_20 (by decide) ?_
    have hE := Option.some.inj hE
    exact ez hx hb hr (by decide) hlocks hK hP hD hS hE rfl dX4_isSkipped_21
abbrev rm_X4_priceOf : Room := { frames := 1, cells := 0, slots := 0, locals := 21 }
set_option maxHeartbeats 40000000 in
set_option maxRecDepth 100000 in
theorem c_X4_priceOf (l : Launch) (D : va_G) (cy : Nat → Nat) (aP aS aB aO aR aA : Nat → Nat) (x1 : Int32) (x2 : Int32) (x3 : Int32) (imP : Mem) (inP : MemL) (imS : Mem) (imB : Mem) (imO : Mem) (imR : Mem) (imA : Mem) (inA : MemL) (r' : Int32) (hE : f_X4_priceOf x1 x2 x3 imP inP imS imB imO imR imA inA = some r') : CI l yX4_priceOf wsX4_priceOf rm_X4_priceOf D cy [.ref (aP 0), .int x1, .int x2, .int x3] (W_Pl cy aP aS aB aO aR aA imP inP imS imB imO imR imA inA) 0 0 r' (W_Pl cy aP aS aB aO aR aA imP inP imS imB imO imR imA inA) := by
  refine CQ_of (cc := cX4_priceOf) (maxL := 5) (ret := (some .int)) (by decide) rfl (Nat.le_of_ble_eq_true rfl) (fun p e s m args below meth c A ls hx hb hr hml hlocks hnm hown hts hA hK hN hP hD hS hl => ?_)
  have hown : s.vm.findClass RX4 = some m.cls := hown
  have hl : lv_has ls 5 [(0, .ref (aP 0)), (1, .int x1), (2, .int x2), (3, .int x3)] := hl
  have hC : CallFix p m c cX4_priceOf 5 s args wsX4_priceOf RX4 := ⟨hx, hb, hml, hown, hts⟩
  have f9 : (Cond.fieldLink RX4 9 "IcePlant$Plant" "settings" "[I").before args s = true := hts _ (mC qf_X4_9)
  have f35 : (Cond.fieldLink RX4 35 "IcePlant$Plant" "boats" "LIcePlant$Boats;").before args s = true := hts _ (mC qf_X4_35)
  have f175 : (Cond.fieldLink RX4 175 "IcePlant$Boats" "catches" "[I").before args s = true := hts _ (mC qf_X4_175)
  have iX1 : ∀ w ∈ wsX10, w ∈ wsX4_priceOf := fun w h => mC (iA_X1 w h)
  have iX4 : ∀ w ∈ wsX40, w ∈ wsX4_priceOf := fun w h => mC (iA_X4 w h)
  have in_X8 : (Cond.initialized RX8).before args s = true := hts _ (mC qn_X8)
  have st_X8_valueAt : (Cond.static yX8_valueAt).before args s = true := hts _ (mC qs_X8_valueAt)
  have h15 : ∀ (x1 : Int32) (t0 : Int32) (t2 : Int32), ∀  (H : Heap) (locs : List Loc) (ls : Array Slot), f_X4_priceOf_b15 x1 t0 t2 imP inP imS imB imO imR imA inA = some r' → va_P D vwCl (W_Pl cy aP aS aB aO aR aA imP inP imS imB imO imR imA inA) H → va_D A (W_Pl cy aP aS aB aO aR aA imP inP imS imB imO imR imA inA) → va_S A s.heap H locs → lv_has ls 5 [(0, .ref (aP 0)), (1, .int x1)] → W p l e rm_X4_priceOf s m args below meth c H locs 0 0 (MQ below (QI D cy r' (W_Pl cy aP aS aB aO aR aA imP inP imS imB imO imR imA inA) A) args s 0 0 A) (F0 m 15 ls [.int t0, .ref (aP 1), .int t2]) := by
    intro x1 t0 t2 H locs ls hE hP hD hS hl
    replace hE : (gi t0 8 (lt' (t2 * (imP 0 t0.toNatClampNeg)) fun x4_2 => bd1 (f_X8_valueAt x1 (8) (imB 1)) fun r_3 => (if r_3 < (imP 0 (6 : Int32).toNatClampNeg) then some x4_2 else lt' (x4_2 - ((x4_2 * (imP 0 (7 : Int32).toNatClampNeg)) / (100 : Int32))) fun x4_6 => some x4_6))) = some r' := hE
    obtain ⟨g_1, hE⟩ := gi_el hE
    refine va_iald hx hb hK hP 1 0 rfl rfl g_1 dX4_priceOf_15 ?_
    refine lv_imul hx hb dX4_priceOf_16 ?_
    obtain ⟨x4_2, e_x4_2, hE⟩ := lt_el hE
    refine s_nm e_x4_2 ?_
    refine lv_istore (lv' := [(4, .int x4_2), (0, .ref (aP 0)), (1, .int x1)]) hx hb dX4_priceOf_17 hl (by decide) rfl (fun ls hl => ?_)
    refine lv_aload_n hx hb dX4_priceOf_19 rfl (lv_at hl 1 rfl) ?_
    refine va_get (D := D) (ci := 4) (v := .ref (aB 0)) (C := RX4) (T := TX4) (N := 13) hx hb hts iX4 hown hK hP 0 rfl rfl 3 (by decide) f35 (fun _ h9 => h9) rfl dX4_priceOf_20 ?_
    refine va_get (D := D) (ci := 1) (v := .ref (aB 2)) (C := RX1) (T := TX1) (N := 4) hx hb hts iX1 hown hK hP 12 rfl rfl 1 (by decide) f175 (fun _ h9 => h9) rfl dX4_priceOf_23 ?_
    refine lv_iload_n hx hb dX4_priceOf_26 rfl (lv_at hl 2 rfl) ?_
    obtain ⟨r_3, hc_4, hE⟩ := bd1_el hE
    refine ki (X := (List.take 13 (W_Pl cy aP aS aB aO aR aA imP inP imS imB imO imR imA inA))) (Y := (List.drop 14 (W_Pl cy aP aS aB aO aR aA imP inP imS imB imO imR imA inA))) (ws1 := (W_Pl cy aP aS aB aO aR aA imP inP imS imB imO imR imA inA)) (rSN (X := (List.take 13 (W_Pl cy aP aS aB aO aR aA imP inP imS imB imO imR imA inA))) (Y := (List.drop 14 (W_Pl cy aP aS aB aO aR aA imP inP imS imB imO imR imA inA))) (As := [.ref (aB 2), .int x1]) (rest := []) hC (c_X8_valueAt l D cy (aB 2) x1 (8) (imB 1) r_3 hc_4) (va_cnB 2 hts gX4_priceOf_X8_valueAt_n99 rfl rfl rfl (hN.1 7 _ rfl) in_X8 cd_X8_valueAt.2 ⟨Nat.le_of_ble_eq_true rfl, Nat.le_of_ble_eq_true rfl⟩) st_X8_valueAt hK hN hP hD hS hA rfl rfl hl.1 rfl (lv_room (Nat.le_of_ble_eq_true rfl)) dX4_priceOf_27 ⟨Nat.le_of_ble_eq_true rfl, Nat.le_of_ble_eq_true rfl⟩) hP hD hS hA rfl rfl rfl (fun H locs hP hD hS => ?_)
    refine lv_aload_n hx hb dX4_priceOf_30 rfl (lv_at hl 1 rfl) ?_
    refine va_get (D := D) (ci := 4) (v := .ref (aP 1)) (C := RX4) (T := TX4) (N := 13) hx hb hts iX4 hown hK hP 0 rfl rfl 0 (by decide) f9 (fun _ h9 => h9) rfl dX4_priceOf_31 ?_
    refine lv_bipush (v := 6) hx hb dX4_priceOf_34 (by decide) ?_
    refine va_iald hx hb hK hP 1 0 rfl rfl (show ¬ ((6 : Int32) < 0 ∨ 8 ≤ (6 : Int32).toNatClampNeg) by decide) dX4_priceOf_36 ?_
    refine lv_icmp_lt (tgt := 58) hx hb dX4_priceOf_37 (by decide) (fun c_5 => ?_) (fun c_5 => ?_)
    · replace hE := it_t hE c_5
      refine lv_iload hx hb dX4_priceOf_58 (lv_at hl 0 rfl) ?_
      have hE := Option.some.inj hE
      exact ei hx hb hr hlocks hK hP hD hS hE rfl dX4_priceOf_60
    · replace hE := it_f hE c_5
      refine lv_iload hx hb dX4_priceOf_40 (lv_at hl 0 rfl) ?_
      refine lv_iload hx hb dX4_priceOf_42 (lv_at hl 0 rfl) ?_
      refine lv_aload_n hx hb dX4_priceOf_44 rfl (lv_at hl 1 rfl) ?_
      refine va_get (D := D) (ci := 4) (v := .ref (aP 1)) (C := RX4) (T := TX4) (N := 13) hx hb hts iX4 hown hK hP 0 rfl rfl 0 (by decide) f9 (fun _ h9 => h9) rfl dX4_priceOf_45 ?_
      refine lv_bipush (v := 7) hx hb dX4_priceOf_48 (by decide) ?_
      refine va_iald hx hb hK hP 1 0 rfl rfl (show ¬ ((7 : Int32) < 0 ∨ 8 ≤ (7 : Int32).toNatClampNeg) by decide) dX4_priceOf_50 ?_
      refine lv_imul hx hb dX4_priceOf_51 ?_
      refine lv_bipush (v := 100) hx hb dX4_priceOf_52 (by decide) ?_
      refine lv_idiv hx hb dX4_priceOf_54 (by decide) ?_
      refine lv_isub hx hb dX4_priceOf_55 ?_
      obtain ⟨x4_6, e_x4_6, hE⟩ := lt_el hE
      refine s_nm e_x4_6 ?_
      refine lv_istore (lv' := [(4, .int x4_6), (0, .ref (aP 0)), (1, .int x1)]) hx hb dX4_priceOf_56 hl (by decide) rfl (fun ls hl => ?_)
      refine lv_iload hx hb dX4_priceOf_58 (lv_at hl 0 rfl) ?_
      have hE := Option.some.inj hE
      exact ei hx hb hr hlocks hK hP hD hS hE rfl dX4_priceOf_60
  unfold f_X4_priceOf at hE
  refine lv_iload_n hx hb dX4_priceOf_0 rfl (lv_at hl 2 rfl) ?_
  refine lv_aload_n hx hb dX4_priceOf_1 rfl (lv_at hl 0 rfl) ?_
  refine va_get (D := D) (ci := 4) (v := .ref (aP 1)) (C := RX4) (T := TX4) (N := 13) hx hb hts iX4 hown hK hP 0 rfl rfl 0 (by decide) f9 (fun _ h9 => h9) rfl dX4_priceOf_2 ?_
  refine lv_iload_n hx hb dX4_priceOf_5 rfl (lv_at hl 3 rfl) ?_
  refine lv_iconst (v := 1) hx hb dX4_priceOf_6 (by decide) ?_
  refine lv_icmp_ne (tgt := 14) hx hb dX4_priceOf_7 (by decide) (fun c_7 => ?_) (fun c_7 => ?_)
  · replace hE := it_f hE c_7
    refine lv_iconst (v := 5) hx hb dX4_priceOf_14 (by decide) ?_
    exact h15 x1 (5 : Int32) x2 _ _ _ hE hP hD hS (lv_sub hl [0, 1] rfl)
  · replace hE := it_t hE c_7
    refine lv_iconst (v := 4) hx hb dX4_priceOf_10 (by decide) ?_
    refine lv_goto (tgt := 15) hx hb dX4_priceOf_11 (by decide) ?_
    exact h15 x1 (4 : Int32) x2 _ _ _ hE hP hD hS (lv_sub hl [0, 1] rfl)
abbrev rm_X4_serve : Room := { frames := 3, cells := 0, slots := 0, locals := 69 }
set_option maxHeartbeats 40000000 in
set_option maxRecDepth 100000 in
theorem c_X4_serve (l : Launch) (D : va_G) (cy : Nat → Nat) (aP aS aB aO aR aA : Nat → Nat) (x1 : Int32) (x2 : Int32) (imP : Mem) (inP : MemL) (imS : Mem) (imB : Mem) (imO : Mem) (imR : Mem) (imA : Mem) (inA : MemL) (mP' : Mem) (nP' : MemL) (mS' : Mem) (mB' : Mem) (mO' : Mem) (mR' : Mem) (mA' : Mem) (nA' : MemL) (hE : f_X4_serve x1 x2 imP inP imS imB imO imR imA inA = some (mP', nP', mS', mB', mO', mR', mA', nA')) : CV l yX4_serve wsX4_serve rm_X4_serve D cy [.ref (aP 0), .int x1, .int x2] (W_Pl cy aP aS aB aO aR aA imP inP imS imB imO imR imA inA) 0 0 (W_Pl cy aP aS aB aO aR aA mP' nP' mS' mB' mO' mR' mA' nA') := by
  refine CQ_of (cc := cX4_serve) (maxL := 10) (ret := none) (by decide) rfl (Nat.le_of_ble_eq_true rfl) (fun p e s m args below meth c A ls hx hb hr hml hlocks hnm hown hts hA hK hN hP hD hS hl => ?_)
  have hown : s.vm.findClass RX4 = some m.cls := hown
  have hl : lv_has ls 10 [(0, .ref (aP 0)), (1, .int x1), (2, .int x2)] := hl
  have hC : CallFix p m c cX4_serve 10 s args wsX4_serve RX4 := ⟨hx, hb, hml, hown, hts⟩
  have f28 : (Cond.fieldLink RX4 28 "IcePlant$Plant" "store" "LIcePlant$Store;").before args s = true := hts _ (mC qf_X4_28)
  have f35 : (Cond.fieldLink RX4 35 "IcePlant$Plant" "boats" "LIcePlant$Boats;").before args s = true := hts _ (mC qf_X4_35)
  have f42 : (Cond.fieldLink RX4 42 "IcePlant$Plant" "orders" "LIcePlant$Orders;").before args s = true := hts _ (mC qf_X4_42)
  have f49 : (Cond.fieldLink RX4 49 "IcePlant$Plant" "receipts" "LIcePlant$Receipts;").before args s = true := hts _ (mC qf_X4_49)
  have f56 : (Cond.fieldLink RX4 56 "IcePlant$Plant" "accounts" "LIcePlant$Accounts;").before args s = true := hts _ (mC qf_X4_56)
  have f76 : (Cond.fieldLink RX4 76 "IcePlant$Plant" "time" "I").before args s = true := hts _ (mC qf_X4_76)
  have f83 : (Cond.fieldLink RX4 83 "IcePlant$Plant" "deliveredMass" "I").before args s = true := hts _ (mC qf_X4_83)
  have f89 : (Cond.fieldLink RX4 89 "IcePlant$Plant" "prices" "J").before args s = true := hts _ (mC qf_X4_89)
  have f131 : (Cond.fieldLink RX4 131 "IcePlant$Orders" "boats" "[I").before args s = true := hts _ (mC qf_X4_131)
  have iX3 : ∀ w ∈ wsX30, w ∈ wsX4_serve := fun w h => mC (iA_X3 w h)
  have iX4 : ∀ w ∈ wsX40, w ∈ wsX4_serve := fun w h => mC (iA_X4 w h)
  have in_X8 : (Cond.initialized RX8).before args s = true := hts _ (mC qn_X8)
  have st_X8_valueAt : (Cond.static yX8_valueAt).before args s = true := hts _ (mC qs_X8_valueAt)
  have h117 : ∀ (x1 : Int32) (x2 : Int32) (x3 : Int32) (x5 : Int32) (x6 : Int32) (mP : Mem) (nP : MemL) (mS : Mem) (mB : Mem) (mO : Mem) (mR : Mem) (mA : Mem) (nA : MemL), ∀  (H : Heap) (locs : List Loc) (ls : Array Slot), f_X4_serve_b117 x1 x2 x3 x5 x6 mP nP mS mB mO mR mA nA = some (mP', nP', mS', mB', mO', mR', mA', nA') → va_P D vwCl (W_Pl cy aP aS aB aO aR aA mP nP mS mB mO mR mA nA) H → va_D A (W_Pl cy aP aS aB aO aR aA mP nP mS mB mO mR mA nA) → va_S A s.heap H locs → lv_has ls 10 [(0, .ref (aP 0)), (1, .int x1), (2, .int x2), (3, .int x3), (5, .int x5), (6, .int x6)] → W p l e rm_X4_serve s m args below meth c H locs 0 0 (MQ below (QV D cy (W_Pl cy aP aS aB aO aR aA mP' nP' mS' mB' mO' mR' mA' nA') A) args s 0 0 A) (F0 m 117 ls []) := by
    intro x1 x2 x3 x5 x6 mP nP mS mB mO mR mA nA H locs ls hE hP hD hS hl
    replace hE : ((if x5 ≤ 0 then some (mP, nP, mS, mB, mO, mR, mA, nA) else bd1 (f_X3_deliver x1 x5 mO) fun mO_2 => bd1 (f_X1_charge x3 x5 x6 mB) fun mB_4 => bd2 (f_X0_enter x3 x2 x5 x6 mA nA) fun mA_6 nA_7 => bd1 (f_X5_write x1 x5 x6 (mP 7 0) mR) fun mR_9 => lt' (wrI mP 9 (fun _ => ((mP 9 0) + x5))) fun mP_11 => lt' (wrL nP 11 (fun _ => ((nP 11 0) + (x6.toInt64)))) fun nP_12 => some (mP_11, nP_12, mS, mB_4, mO_2, mR_9, mA_6, nA_7))) = some (mP', nP', mS', mB', mO', mR', mA', nA') := hE
    refine lv_iload hx hb dX4_serve_117 (lv_at hl 4 rfl) ?_
    refine lv_if_le (tgt := 196) hx hb dX4_serve_119 (by decide) (fun c_1 => ?_) (fun c_1 => ?_)
    · replace hE := it_t hE c_1
      have hE := Option.some.inj hE
      obtain ⟨q0, hE⟩ := Prod.mk.inj hE
      obtain ⟨q1, hE⟩ := Prod.mk.inj hE
      obtain ⟨q2, hE⟩ := Prod.mk.inj hE
      obtain ⟨q3, hE⟩ := Prod.mk.inj hE
      obtain ⟨q4, hE⟩ := Prod.mk.inj hE
      obtain ⟨q5, hE⟩ := Prod.mk.inj hE
      obtain ⟨q6, q7⟩ := Prod.mk.inj hE
      exact ev hx hb hr hlocks hK hP hD hS (by rw [q0, q1, q2, q3, q4, q5, q6, q7]) dX4_serve_196
    · replace hE := it_f hE c_1
      refine lv_aload_n hx hb dX4_serve_122 rfl (lv_at hl 0 rfl) ?_
      refine va_get (D := D) (ci := 4) (v := .ref (aO 0)) (C := RX4) (T := TX4) (N := 13) hx hb hts iX4 hown hK hP 0 rfl rfl 4 (by decide) f42 (fun _ h9 => h9) rfl dX4_serve_123 ?_
      refine lv_iload_n hx hb dX4_serve_126 rfl (lv_at hl 1 rfl) ?_
      refine lv_iload hx hb dX4_serve_127 (lv_at hl 4 rfl) ?_
      obtain ⟨mO_2, hc_3, hE⟩ := bd1_el hE
      refine kv (X := ((W_P cy aP aS aB aO aR aA mP nP) ++ ((W_S cy aS mS) ++ (W_B cy aB mB)))) (Y := ((W_R cy aR mR) ++ (W_A cy aA mA nA))) (ws1 := (W_Pl cy aP aS aB aO aR aA mP nP mS mB mO_2 mR mA nA)) (rV (X := ((W_P cy aP aS aB aO aR aA mP nP) ++ ((W_S cy aS mS) ++ (W_B cy aB mB)))) (Y := ((W_R cy aR mR) ++ (W_A cy aA mA nA))) (As := [.int x1, .int x5]) (rest := []) hC (c_X3_deliver l D cy aO x1 x5 mO mO_2 hc_3) (cwV 2 hts gX4_serve_X3_deliver rfl rfl rfl cd_X3_deliver ⟨Nat.le_of_ble_eq_true rfl, Nat.le_of_ble_eq_true rfl⟩) hK hN hP hD hS hA rfl 0 3 rfl rfl rfl hl.1 rfl (lv_room (Nat.le_of_ble_eq_true rfl)) dX4_serve_129 ⟨Nat.le_of_ble_eq_true rfl, Nat.le_of_ble_eq_true rfl⟩) hP hD hS hA rfl rfl rfl (fun H locs hP hD hS => ?_)
      refine lv_aload_n hx hb dX4_serve_132 rfl (lv_at hl 0 rfl) ?_
      refine va_get (D := D) (ci := 4) (v := .ref (aB 0)) (C := RX4) (T := TX4) (N := 13) hx hb hts iX4 hown hK hP 0 rfl rfl 3 (by decide) f35 (fun _ h9 => h9) rfl dX4_serve_133 ?_
      refine lv_iload_n hx hb dX4_serve_136 rfl (lv_at hl 3 rfl) ?_
      refine lv_iload hx hb dX4_serve_137 (lv_at hl 4 rfl) ?_
      refine lv_iload hx hb dX4_serve_139 (lv_at hl 5 rfl) ?_
      obtain ⟨mB_4, hc_5, hE⟩ := bd1_el hE
      refine kv (X := ((W_P cy aP aS aB aO aR aA mP nP) ++ (W_S cy aS mS))) (Y := ((W_O cy aO mO_2) ++ ((W_R cy aR mR) ++ (W_A cy aA mA nA)))) (ws1 := (W_Pl cy aP aS aB aO aR aA mP nP mS mB_4 mO_2 mR mA nA)) (rV (X := ((W_P cy aP aS aB aO aR aA mP nP) ++ (W_S cy aS mS))) (Y := ((W_O cy aO mO_2) ++ ((W_R cy aR mR) ++ (W_A cy aA mA nA)))) (As := [.int x3, .int x5, .int x6]) (rest := []) hC (c_X1_charge l D cy aB x3 x5 x6 mB mB_4 hc_5) (cwV 3 hts gX4_serve_X1_charge rfl rfl rfl cd_X1_charge ⟨Nat.le_of_ble_eq_true rfl, Nat.le_of_ble_eq_true rfl⟩) hK hN hP hD hS hA rfl 0 1 rfl rfl rfl hl.1 rfl (lv_room (Nat.le_of_ble_eq_true rfl)) dX4_serve_141 ⟨Nat.le_of_ble_eq_true rfl, Nat.le_of_ble_eq_true rfl⟩) hP hD hS hA rfl rfl rfl (fun H locs hP hD hS => ?_)
      refine lv_aload_n hx hb dX4_serve_144 rfl (lv_at hl 0 rfl) ?_
      refine va_get (D := D) (ci := 4) (v := .ref (aA 0)) (C := RX4) (T := TX4) (N := 13) hx hb hts iX4 hown hK hP 0 rfl rfl 6 (by decide) f56 (fun _ h9 => h9) rfl dX4_serve_145 ?_
      refine lv_iload_n hx hb dX4_serve_148 rfl (lv_at hl 3 rfl) ?_
      refine lv_iload_n hx hb dX4_serve_149 rfl (lv_at hl 2 rfl) ?_
      refine lv_iload hx hb dX4_serve_150 (lv_at hl 4 rfl) ?_
      refine lv_iload hx hb dX4_serve_152 (lv_at hl 5 rfl) ?_
      obtain ⟨mA_6, nA_7, hc_8, hE⟩ := bd2_el hE
      refine kv (X := ((W_P cy aP aS aB aO aR aA mP nP) ++ ((W_S cy aS mS) ++ ((W_B cy aB mB_4) ++ ((W_O cy aO mO_2) ++ (W_R cy aR mR)))))) (Y := []) (ws1 := (W_Pl cy aP aS aB aO aR aA mP nP mS mB_4 mO_2 mR mA_6 nA_7)) (rV (X := ((W_P cy aP aS aB aO aR aA mP nP) ++ ((W_S cy aS mS) ++ ((W_B cy aB mB_4) ++ ((W_O cy aO mO_2) ++ (W_R cy aR mR)))))) (Y := []) (As := [.int x3, .int x2, .int x5, .int x6]) (rest := []) hC (c_X0_enter l D cy aA x3 x2 x5 x6 mA nA mA_6 nA_7 hc_8) (cwV 4 hts gX4_serve_X0_enter rfl rfl rfl cd_X0_enter ⟨Nat.le_of_ble_eq_true rfl, Nat.le_of_ble_eq_true rfl⟩) hK hN hP hD hS hA rfl 0 0 rfl rfl rfl hl.1 rfl (lv_room (Nat.le_of_ble_eq_true rfl)) dX4_serve_154 ⟨Nat.le_of_ble_eq_true rfl, Nat.le_of_ble_eq_true rfl⟩) hP hD hS hA rfl rfl rfl (fun H locs hP hD hS => ?_)
      refine lv_aload_n hx hb dX4_serve_157 rfl (lv_at hl 0 rfl) ?_
      refine va_get (D := D) (ci := 4) (v := .ref (aR 0)) (C := RX4) (T := TX4) (N := 13) hx hb hts iX4 hown hK hP 0 rfl rfl 5 (by decide) f49 (fun _ h9 => h9) rfl dX4_serve_158 ?_
      refine lv_iload_n hx hb dX4_serve_161 rfl (lv_at hl 1 rfl) ?_
      refine lv_iload hx hb dX4_serve_162 (lv_at hl 4 rfl) ?_
      refine lv_iload hx hb dX4_serve_164 (lv_at hl 5 rfl) ?_
      refine lv_aload_n hx hb dX4_serve_166 rfl (lv_at hl 0 rfl) ?_
      refine va_get (D := D) (ci := 4) (v := .int (mP 7 0)) (C := RX4) (T := TX4) (N := 13) hx hb hts iX4 hown hK hP 0 rfl rfl 7 (by decide) f76 (fun _ h9 => h9) rfl dX4_serve_167 ?_
      obtain ⟨mR_9, hc_10, hE⟩ := bd1_el hE
      refine kv (X := ((W_P cy aP aS aB aO aR aA mP nP) ++ ((W_S cy aS mS) ++ ((W_B cy aB mB_4) ++ (W_O cy aO mO_2))))) (Y := (W_A cy aA mA_6 nA_7)) (ws1 := (W_Pl cy aP aS aB aO aR aA mP nP mS mB_4 mO_2 mR_9 mA_6 nA_7)) (rV (X := ((W_P cy aP aS aB aO aR aA mP nP) ++ ((W_S cy aS mS) ++ ((W_B cy aB mB_4) ++ (W_O cy aO mO_2))))) (Y := (W_A cy aA mA_6 nA_7)) (As := [.int x1, .int x5, .int x6, .int (mP 7 0)]) (rest := []) hC (c_X5_write l D cy aR x1 x5 x6 (mP 7 0) mR mR_9 hc_10) (cwV 4 hts gX4_serve_X5_write rfl rfl rfl cd_X5_write ⟨Nat.le_of_ble_eq_true rfl, Nat.le_of_ble_eq_true rfl⟩) hK hN hP hD hS hA rfl 0 5 rfl rfl rfl hl.1 rfl (lv_room (Nat.le_of_ble_eq_true rfl)) dX4_serve_170 ⟨Nat.le_of_ble_eq_true rfl, Nat.le_of_ble_eq_true rfl⟩) hP hD hS hA rfl rfl rfl (fun H locs hP hD hS => ?_)
      refine lv_aload_n hx hb dX4_serve_173 rfl (lv_at hl 0 rfl) ?_
      refine lv_dup hx hb dX4_serve_174 rfl ?_
      refine va_get (D := D) (ci := 4) (v := .int (mP 9 0)) (C := RX4) (T := TX4) (N := 13) hx hb hts iX4 hown hK hP 0 rfl rfl 9 (by decide) f83 (fun _ h9 => h9) rfl dX4_serve_175 ?_
      refine lv_iload hx hb dX4_serve_178 (lv_at hl 4 rfl) ?_
      refine lv_iadd hx hb dX4_serve_180 ?_
      obtain ⟨mP_11, e_mP_11, hE⟩ := lt_el hE
      refine s_pf (own := RX4) (C := RX4) (T := TX4) (N := 13) (ci := 4) (ws1 := (W_Pl cy aP aS aB aO aR aA mP_11 nP mS mB_4 mO_2 mR_9 mA_6 nA_7)) hx hb hts iX4 tyX4 tyX4_ok nmX4 hown hK hP hD hS 0 rfl rfl 9 (by decide) f83 rfl rfl rfl rfl (Nat.le_of_ble_eq_true rfl) (by rw [e_mP_11]; rfl) dX4_serve_181 (fun H locs hP hD hS => ?_)
      refine lv_aload_n hx hb dX4_serve_184 rfl (lv_at hl 0 rfl) ?_
      refine lv_dup hx hb dX4_serve_185 rfl ?_
      refine va_get (D := D) (ci := 4) (v := .long (nP 11 0)) (C := RX4) (T := TX4) (N := 13) hx hb hts iX4 hown hK hP 0 rfl rfl 11 (by decide) f89 (fun _ h9 => h9) rfl dX4_serve_186 ?_
      refine lv_iload hx hb dX4_serve_189 (lv_at hl 5 rfl) ?_
      refine lv_i2l hx hb dX4_serve_191 rfl ?_
      refine lv_ladd hx hb dX4_serve_192 ?_
      obtain ⟨nP_12, e_nP_12, hE⟩ := lt_el hE
      refine s_pf (own := RX4) (C := RX4) (T := TX4) (N := 13) (ci := 4) (ws1 := (W_Pl cy aP aS aB aO aR aA mP_11 nP_12 mS mB_4 mO_2 mR_9 mA_6 nA_7)) hx hb hts iX4 tyX4 tyX4_ok nmX4 hown hK hP hD hS 0 rfl rfl 11 (by decide) f89 rfl rfl rfl rfl (Nat.le_of_ble_eq_true rfl) (by rw [e_nP_12]; rfl) dX4_serve_193 (fun H locs hP hD hS => ?_)
      have hE := Option.some.inj hE
      obtain ⟨q0, hE⟩ := Prod.mk.inj hE
      obtain ⟨q1, hE⟩ := Prod.mk.inj hE
      obtain ⟨q2, hE⟩ := Prod.mk.inj hE
      obtain ⟨q3, hE⟩ := Prod.mk.inj hE
      obtain ⟨q4, hE⟩ := Prod.mk.inj hE
      obtain ⟨q5, hE⟩ := Prod.mk.inj hE
      obtain ⟨q6, q7⟩ := Prod.mk.inj hE
      exact ev hx hb hr hlocks hK hP hD hS (by rw [q0, q1, q2, q3, q4, q5, q6, q7]) dX4_serve_196
  have h50 : ∀ (x1 : Int32) (x2 : Int32) (x3 : Int32) (x4 : Int32) (mP : Mem) (nP : MemL) (mB : Mem) (mO : Mem) (mR : Mem) (mA : Mem) (nA : MemL), ∀ (n : Nat), ∀ (x5 : Int32) (x6 : Int32) (x7 : Int32) (x8 : Int32) (mS : Mem) (H : Heap) (locs : List Loc) (ls : Array Slot), f_X4_serve_L50 x1 x2 x3 x4 mP nP mB mO mR mA nA n x5 x6 x7 x8 mS = some (mP', nP', mS', mB', mO', mR', mA', nA') → va_P D vwCl (W_Pl cy aP aS aB aO aR aA mP nP mS mB mO mR mA nA) H → va_D A (W_Pl cy aP aS aB aO aR aA mP nP mS mB mO mR mA nA) → va_S A s.heap H locs → lv_has ls 10 [(0, .ref (aP 0)), (1, .int x1), (2, .int x2), (3, .int x3), (4, .int x4), (5, .int x5), (6, .int x6), (7, .int x7), (8, .int x8)] → W p l e rm_X4_serve s m args below meth c H locs 0 0 (MQ below (QV D cy (W_Pl cy aP aS aB aO aR aA mP' nP' mS' mB' mO' mR' mA' nA') A) args s 0 0 A) (F0 m 50 ls []) := by
    intro x1 x2 x3 x4 mP nP mB mO mR mA nA n
    induction n with
    | zero => intro x5 x6 x7 x8 mS H locs ls hE; exact absurd hE (fun h9 => nomatch h9)
    | succ n ih =>
      intro x5 x6 x7 x8 mS H locs ls hE hP hD hS hl
      replace hE : ((if (150 : Int32) ≤ x8 then f_X4_serve_b117 x1 x2 x3 x5 x6 mP nP mS mB mO mR mA nA else (if x7 = (-1 : Int32) then f_X4_serve_b117 x1 x2 x3 x5 x6 mP nP mS mB mO mR mA nA else (if x4 ≤ x5 then f_X4_serve_b117 x1 x2 x3 x5 x6 mP nP mS mB mO mR mA nA else bd2 (f_X6_removeBlock x7 mS) fun r_16 mS_17 => lt' (x5 + r_16) fun x5_19 => bd1 (f_X4_priceOf x3 r_16 x2 mP nP mS_17 mB mO mR mA nA) fun r_20 => lt' (x6 + r_20) fun x6_22 => bd1 (f_X6_oldestSlot mS_17) fun r_23 => lt' (x8 + (1 : Int32)) fun x8_25 => (f_X4_serve_L50 x1 x2 x3 x4 mP nP mB mO mR mA nA n) x5_19 x6_22 r_23 x8_25 mS_17)))) = some (mP', nP', mS', mB', mO', mR', mA', nA') := hE
      refine lv_iload hx hb dX4_serve_50 (lv_at hl 8 rfl) ?_
      refine lv_sipush (v := 150) hx hb dX4_serve_52 (by decide) ?_
      refine lv_icmp_ge (tgt := 117) hx hb dX4_serve_55 (by decide) (fun c_13 => ?_) (fun c_13 => ?_)
      · replace hE := it_t hE c_13
        exact h117 x1 x2 x3 x5 x6 mP nP mS mB mO mR mA nA _ _ _ hE hP hD hS (lv_sub hl [0, 1, 2, 3, 5, 6] rfl)
      · replace hE := it_f hE c_13
        refine lv_iload hx hb dX4_serve_58 (lv_at hl 7 rfl) ?_
        refine lv_iconst (v := (-1)) hx hb dX4_serve_60 (by decide) ?_
        refine lv_icmp_eq (tgt := 117) hx hb dX4_serve_61 (by decide) (fun c_14 => ?_) (fun c_14 => ?_)
        · replace hE := it_t hE c_14
          exact h117 x1 x2 x3 x5 x6 mP nP mS mB mO mR mA nA _ _ _ hE hP hD hS (lv_sub hl [0, 1, 2, 3, 5, 6] rfl)
        · replace hE := it_f hE c_14
          refine lv_iload hx hb dX4_serve_64 (lv_at hl 5 rfl) ?_
          refine lv_iload hx hb dX4_serve_66 (lv_at hl 4 rfl) ?_
          refine lv_icmp_ge (tgt := 117) hx hb dX4_serve_68 (by decide) (fun c_15 => ?_) (fun c_15 => ?_)
          · replace hE := it_t hE c_15
            exact h117 x1 x2 x3 x5 x6 mP nP mS mB mO mR mA nA _ _ _ hE hP hD hS (lv_sub hl [0, 1, 2, 3, 5, 6] rfl)
          · replace hE := it_f hE c_15
            refine lv_aload_n hx hb dX4_serve_71 rfl (lv_at hl 0 rfl) ?_
            refine va_get (D := D) (ci := 4) (v := .ref (aS 0)) (C := RX4) (T := TX4) (N := 13) hx hb hts iX4 hown hK hP 0 rfl rfl 2 (by decide) f28 (fun _ h9 => h9) rfl dX4_serve_72 ?_
            refine lv_iload hx hb dX4_serve_75 (lv_at hl 7 rfl) ?_
            obtain ⟨r_16, mS_17, hc_18, hE⟩ := bd2_el hE
            refine ki (X := (W_P cy aP aS aB aO aR aA mP nP)) (Y := ((W_B cy aB mB) ++ ((W_O cy aO mO) ++ ((W_R cy aR mR) ++ (W_A cy aA mA nA))))) (ws1 := (W_Pl cy aP aS aB aO aR aA mP nP mS_17 mB mO mR mA nA)) (rV (X := (W_P cy aP aS aB aO aR aA mP nP)) (Y := ((W_B cy aB mB) ++ ((W_O cy aO mO) ++ ((W_R cy aR mR) ++ (W_A cy aA mA nA))))) (As := [.int x7]) (rest := []) hC (c_X6_removeBlock l D cy aS x7 mS r_16 mS_17 hc_18) (cwV 1 hts gX4_serve_X6_removeBlock rfl rfl rfl cd_X6_removeBlock ⟨Nat.le_of_ble_eq_true rfl, Nat.le_of_ble_eq_true rfl⟩) hK hN hP hD hS hA rfl 0 6 rfl rfl rfl hl.1 rfl (lv_room (Nat.le_of_ble_eq_true rfl)) dX4_serve_77 ⟨Nat.le_of_ble_eq_true rfl, Nat.le_of_ble_eq_true rfl⟩) hP hD hS hA rfl rfl rfl (fun H locs hP hD hS => ?_)
            refine lv_istore (lv' := [(9, .int r_16), (0, .ref (aP 0)), (1, .int x1), (2, .int x2), (3, .int x3), (4, .int x4), (5, .int x5), (6, .int x6), (7, .int x7), (8, .int x8)]) hx hb dX4_serve_80 hl (by decide) rfl (fun ls hl => ?_)
            refine lv_iload hx hb dX4_serve_82 (lv_at hl 6 rfl) ?_
            refine lv_iload hx hb dX4_serve_84 (lv_at hl 0 rfl) ?_
            refine lv_iadd hx hb dX4_serve_86 ?_
            obtain ⟨x5_19, e_x5_19, hE⟩ := lt_el hE
            refine s_nm e_x5_19 ?_
            refine lv_istore (lv' := [(5, .int x5_19), (9, .int r_16), (0, .ref (aP 0)), (1, .int x1), (2, .int x2), (3, .int x3), (4, .int x4), (6, .int x6), (7, .int x7), (8, .int x8)]) hx hb dX4_serve_87 hl (by decide) rfl (fun ls hl => ?_)
            refine lv_iload hx hb dX4_serve_89 (lv_at hl 7 rfl) ?_
            refine lv_aload_n hx hb dX4_serve_91 rfl (lv_at hl 2 rfl) ?_
            refine lv_iload_n hx hb dX4_serve_92 rfl (lv_at hl 5 rfl) ?_
            refine lv_iload hx hb dX4_serve_93 (lv_at hl 1 rfl) ?_
            refine lv_iload_n hx hb dX4_serve_95 rfl (lv_at hl 4 rfl) ?_
            obtain ⟨r_20, hc_21, hE⟩ := bd1_el hE
            refine ki (X := []) (Y := []) (ws1 := (W_Pl cy aP aS aB aO aR aA mP nP mS_17 mB mO mR mA nA)) (rV (X := []) (Y := []) (As := [.int x3, .int r_16, .int x2]) (rest := [.int x6]) hC (c_X4_priceOf l D cy aP aS aB aO aR aA x3 r_16 x2 mP nP mS_17 mB mO mR mA nA r_20 hc_21) (cwV 3 hts gX4_serve_X4_priceOf rfl rfl rfl cd_X4_priceOf ⟨Nat.le_of_ble_eq_true rfl, Nat.le_of_ble_eq_true rfl⟩) hK hN hP hD hS hA rfl 0 4 rfl rfl rfl hl.1 rfl (lv_room (Nat.le_of_ble_eq_true rfl)) dX4_serve_96 ⟨Nat.le_of_ble_eq_true rfl, Nat.le_of_ble_eq_true rfl⟩) hP hD hS hA rfl rfl rfl (fun H locs hP hD hS => ?_)
            refine lv_iadd hx hb dX4_serve_99 ?_
            obtain ⟨x6_22, e_x6_22, hE⟩ := lt_el hE
            refine s_nm e_x6_22 ?_
            refine lv_istore (lv' := [(6, .int x6_22), (5, .int x5_19), (9, .int r_16), (0, .ref (aP 0)), (1, .int x1), (2, .int x2), (3, .int x3), (4, .int x4), (7, .int x7), (8, .int x8)]) hx hb dX4_serve_100 hl (by decide) rfl (fun ls hl => ?_)
            refine lv_aload_n hx hb dX4_serve_102 rfl (lv_at hl 3 rfl) ?_
            refine va_get (D := D) (ci := 4) (v := .ref (aS 0)) (C := RX4) (T := TX4) (N := 13) hx hb hts iX4 hown hK hP 0 rfl rfl 2 (by decide) f28 (fun _ h9 => h9) rfl dX4_serve_103 ?_
            obtain ⟨r_23, hc_24, hE⟩ := bd1_el hE
            refine ki (X := (W_P cy aP aS aB aO aR aA mP nP)) (Y := ((W_B cy aB mB) ++ ((W_O cy aO mO) ++ ((W_R cy aR mR) ++ (W_A cy aA mA nA))))) (ws1 := (W_Pl cy aP aS aB aO aR aA mP nP mS_17 mB mO mR mA nA)) (rV (X := (W_P cy aP aS aB aO aR aA mP nP)) (Y := ((W_B cy aB mB) ++ ((W_O cy aO mO) ++ ((W_R cy aR mR) ++ (W_A cy aA mA nA))))) (As := []) (rest := []) hC (c_X6_oldestSlot l D cy aS mS_17 r_23 hc_24) (cwV 0 hts gX4_serve_X6_oldestSlot rfl rfl rfl cd_X6_oldestSlot ⟨Nat.le_of_ble_eq_true rfl, Nat.le_of_ble_eq_true rfl⟩) hK hN hP hD hS hA rfl 0 6 rfl rfl rfl hl.1 rfl (lv_room (Nat.le_of_ble_eq_true rfl)) dX4_serve_106 ⟨Nat.le_of_ble_eq_true rfl, Nat.le_of_ble_eq_true rfl⟩) hP hD hS hA rfl rfl rfl (fun H locs hP hD hS => ?_)
            refine lv_istore (lv' := [(7, .int r_23), (6, .int x6_22), (5, .int x5_19), (9, .int r_16), (0, .ref (aP 0)), (1, .int x1), (2, .int x2), (3, .int x3), (4, .int x4), (8, .int x8)]) hx hb dX4_serve_109 hl (by decide) rfl (fun ls hl => ?_)
            obtain ⟨x8_25, e_x8_25, hE⟩ := lt_el hE
            refine lv_iinc (v := x8_25) (lv' := [(8, .int x8_25), (7, .int r_23), (6, .int x6_22), (5, .int x5_19), (9, .int r_16), (0, .ref (aP 0)), (1, .int x1), (2, .int x2), (3, .int x3), (4, .int x4)]) hx hb dX4_serve_111 hl (k := 9) rfl (by rw [e_x8_25]; rfl) (by decide) rfl (fun ls hl => ?_)
            refine lv_goto (tgt := 50) hx hb dX4_serve_114 (by decide) ?_
            exact ih x5_19 x6_22 r_23 x8_25 mS_17 _ _ _ hE hP hD hS (lv_sub hl [5, 6, 7, 8, 9, 3, 2, 1, 0] rfl)
  unfold f_X4_serve at hE
  refine lv_aload_n hx hb dX4_serve_0 rfl (lv_at hl 0 rfl) ?_
  refine va_get (D := D) (ci := 4) (v := .ref (aO 0)) (C := RX4) (T := TX4) (N := 13) hx hb hts iX4 hown hK hP 0 rfl rfl 4 (by decide) f42 (fun _ h9 => h9) rfl dX4_serve_1 ?_
  refine va_get (D := D) (ci := 3) (v := .ref (aO 3)) (C := RX3) (T := TX3) (N := 10) hx hb hts iX3 hown hK hP 16 rfl rfl 2 (by decide) f131 (fun _ h9 => h9) rfl dX4_serve_4 ?_
  refine lv_iload_n hx hb dX4_serve_7 rfl (lv_at hl 1 rfl) ?_
  obtain ⟨r_26, hc_27, hE⟩ := bd1_el hE
  refine ki (X := (List.take 17 (W_Pl cy aP aS aB aO aR aA imP inP imS imB imO imR imA inA))) (Y := (List.drop 18 (W_Pl cy aP aS aB aO aR aA imP inP imS imB imO imR imA inA))) (ws1 := (W_Pl cy aP aS aB aO aR aA imP inP imS imB imO imR imA inA)) (rSN (X := (List.take 17 (W_Pl cy aP aS aB aO aR aA imP inP imS imB imO imR imA inA))) (Y := (List.drop 18 (W_Pl cy aP aS aB aO aR aA imP inP imS imB imO imR imA inA))) (As := [.ref (aO 3), .int x1]) (rest := []) hC (c_X8_valueAt l D cy (aO 3) x1 (200) (imO 2) r_26 hc_27) (va_cnB 2 hts gX4_serve_X8_valueAt_n99 rfl rfl rfl (hN.1 7 _ rfl) in_X8 cd_X8_valueAt.2 ⟨Nat.le_of_ble_eq_true rfl, Nat.le_of_ble_eq_true rfl⟩) st_X8_valueAt hK hN hP hD hS hA rfl rfl hl.1 rfl (lv_room (Nat.le_of_ble_eq_true rfl)) dX4_serve_8 ⟨Nat.le_of_ble_eq_true rfl, Nat.le_of_ble_eq_true rfl⟩) hP hD hS hA rfl rfl rfl (fun H locs hP hD hS => ?_)
  refine lv_istore_n (lv' := [(3, .int r_26), (0, .ref (aP 0)), (1, .int x1), (2, .int x2)]) hx hb dX4_serve_11 rfl hl (by decide) rfl (fun ls hl => ?_)
  refine lv_aload_n hx hb dX4_serve_12 rfl (lv_at hl 1 rfl) ?_
  refine lv_iload_n hx hb dX4_serve_13 rfl (lv_at hl 2 rfl) ?_
  refine lv_iload_n hx hb dX4_serve_14 rfl (lv_at hl 0 rfl) ?_
  obtain ⟨r_28, hc_29, hE⟩ := bd1_el hE
  refine ki (X := []) (Y := []) (ws1 := (W_Pl cy aP aS aB aO aR aA imP inP imS imB imO imR imA inA)) (rV (X := []) (Y := []) (As := [.int x1, .int r_26]) (rest := []) hC (c_X4_isSkipped l D cy aP aS aB aO aR aA x1 r_26 imP inP imS imB imO imR imA inA r_28 hc_29) (cwV 2 hts gX4_serve_X4_isSkipped rfl rfl rfl cd_X4_isSkipped ⟨Nat.le_of_ble_eq_true rfl, Nat.le_of_ble_eq_true rfl⟩) hK hN hP hD hS hA rfl 0 4 rfl rfl rfl hl.1 rfl (lv_room (Nat.le_of_ble_eq_true rfl)) dX4_serve_15 ⟨Nat.le_of_ble_eq_true rfl, Nat.le_of_ble_eq_true rfl⟩) hP hD hS hA rfl rfl rfl (fun H locs hP hD hS => ?_)
  refine lv_if_eq (tgt := 22) hx hb dX4_serve_18 (by decide) (fun c_30 => ?_) (fun c_30 => ?_)
  · replace hE := it_t hE c_30
    refine lv_aload_n hx hb dX4_serve_22 rfl (lv_at hl 1 rfl) ?_
    refine va_get (D := D) (ci := 4) (v := .ref (aO 0)) (C := RX4) (T := TX4) (N := 13) hx hb hts iX4 hown hK hP 0 rfl rfl 4 (by decide) f42 (fun _ h9 => h9) rfl dX4_serve_23 ?_
    refine lv_iload_n hx hb dX4_serve_26 rfl (lv_at hl 2 rfl) ?_
    obtain ⟨r_31, hc_32, hE⟩ := bd1_el hE
    refine ki (X := ((W_P cy aP aS aB aO aR aA imP inP) ++ ((W_S cy aS imS) ++ (W_B cy aB imB)))) (Y := ((W_R cy aR imR) ++ (W_A cy aA imA inA))) (ws1 := (W_Pl cy aP aS aB aO aR aA imP inP imS imB imO imR imA inA)) (rV (X := ((W_P cy aP aS aB aO aR aA imP inP) ++ ((W_S cy aS imS) ++ (W_B cy aB imB)))) (Y := ((W_R cy aR imR) ++ (W_A cy aA imA inA))) (As := [.int x1]) (rest := []) hC (c_X3_remaining l D cy aO x1 imO r_31 hc_32) (cwV 1 hts gX4_serve_X3_remaining rfl rfl rfl cd_X3_remaining ⟨Nat.le_of_ble_eq_true rfl, Nat.le_of_ble_eq_true rfl⟩) hK hN hP hD hS hA rfl 0 3 rfl rfl rfl hl.1 rfl (lv_room (Nat.le_of_ble_eq_true rfl)) dX4_serve_27 ⟨Nat.le_of_ble_eq_true rfl, Nat.le_of_ble_eq_true rfl⟩) hP hD hS hA rfl rfl rfl (fun H locs hP hD hS => ?_)
    refine lv_istore (lv' := [(4, .int r_31), (3, .int r_26), (0, .ref (aP 0)), (1, .int x1), (2, .int x2)]) hx hb dX4_serve_30 hl (by decide) rfl (fun ls hl => ?_)
    refine lv_iconst (v := 0) hx hb dX4_serve_32 (by decide) ?_
    refine lv_istore (lv' := [(5, .int (0 : Int32)), (4, .int r_31), (3, .int r_26), (0, .ref (aP 0)), (1, .int x1), (2, .int x2)]) hx hb dX4_serve_33 hl (by decide) rfl (fun ls hl => ?_)
    refine lv_iconst (v := 0) hx hb dX4_serve_35 (by decide) ?_
    refine lv_istore (lv' := [(6, .int (0 : Int32)), (5, .int (0 : Int32)), (4, .int r_31), (3, .int r_26), (0, .ref (aP 0)), (1, .int x1), (2, .int x2)]) hx hb dX4_serve_36 hl (by decide) rfl (fun ls hl => ?_)
    refine lv_aload_n hx hb dX4_serve_38 rfl (lv_at hl 4 rfl) ?_
    refine va_get (D := D) (ci := 4) (v := .ref (aS 0)) (C := RX4) (T := TX4) (N := 13) hx hb hts iX4 hown hK hP 0 rfl rfl 2 (by decide) f28 (fun _ h9 => h9) rfl dX4_serve_39 ?_
    obtain ⟨r_33, hc_34, hE⟩ := bd1_el hE
    refine ki (X := (W_P cy aP aS aB aO aR aA imP inP)) (Y := ((W_B cy aB imB) ++ ((W_O cy aO imO) ++ ((W_R cy aR imR) ++ (W_A cy aA imA inA))))) (ws1 := (W_Pl cy aP aS aB aO aR aA imP inP imS imB imO imR imA inA)) (rV (X := (W_P cy aP aS aB aO aR aA imP inP)) (Y := ((W_B cy aB imB) ++ ((W_O cy aO imO) ++ ((W_R cy aR imR) ++ (W_A cy aA imA inA))))) (As := []) (rest := []) hC (c_X6_oldestSlot l D cy aS imS r_33 hc_34) (cwV 0 hts gX4_serve_X6_oldestSlot rfl rfl rfl cd_X6_oldestSlot ⟨Nat.le_of_ble_eq_true rfl, Nat.le_of_ble_eq_true rfl⟩) hK hN hP hD hS hA rfl 0 6 rfl rfl rfl hl.1 rfl (lv_room (Nat.le_of_ble_eq_true rfl)) dX4_serve_42 ⟨Nat.le_of_ble_eq_true rfl, Nat.le_of_ble_eq_true rfl⟩) hP hD hS hA rfl rfl rfl (fun H locs hP hD hS => ?_)
    refine lv_istore (lv' := [(7, .int r_33), (6, .int (0 : Int32)), (5, .int (0 : Int32)), (4, .int r_31), (3, .int r_26), (0, .ref (aP 0)), (1, .int x1), (2, .int x2)]) hx hb dX4_serve_45 hl (by decide) rfl (fun ls hl => ?_)
    refine lv_iconst (v := 0) hx hb dX4_serve_47 (by decide) ?_
    refine lv_istore (lv' := [(8, .int (0 : Int32)), (7, .int r_33), (6, .int (0 : Int32)), (5, .int (0 : Int32)), (4, .int r_31), (3, .int r_26), (0, .ref (aP 0)), (1, .int x1), (2, .int x2)]) hx hb dX4_serve_48 hl (by decide) rfl (fun ls hl => ?_)
    exact h50 x1 x2 r_26 r_31 imP inP imB imO imR imA inA fuel (0 : Int32) (0 : Int32) r_33 (0 : Int32) imS _ _ _ hE hP hD hS (lv_sub hl [6, 7, 8, 5, 4, 3, 2, 1, 0] rfl)
  · replace hE := it_f hE c_30
    have hE := Option.some.inj hE
    obtain ⟨q0, hE⟩ := Prod.mk.inj hE
    obtain ⟨q1, hE⟩ := Prod.mk.inj hE
    obtain ⟨q2, hE⟩ := Prod.mk.inj hE
    obtain ⟨q3, hE⟩ := Prod.mk.inj hE
    obtain ⟨q4, hE⟩ := Prod.mk.inj hE
    obtain ⟨q5, hE⟩ := Prod.mk.inj hE
    obtain ⟨q6, q7⟩ := Prod.mk.inj hE
    exact ev hx hb hr hlocks hK hP hD hS (by rw [q0, q1, q2, q3, q4, q5, q6, q7]) dX4_serve_21
abbrev rm_X4_passHour : Room := { frames := 4, cells := 0, slots := 0, locals := 98 }
set_option maxHeartbeats 40000000 in
set_option maxRecDepth 100000 in
theorem c_X4_passHour (l : Launch) (D : va_G) (cy : Nat → Nat) (aP aS aB aO aR aA : Nat → Nat) (imP : Mem) (inP : MemL) (imS : Mem) (imB : Mem) (imO : Mem) (imR : Mem) (imA : Mem) (inA : MemL) (mP' : Mem) (nP' : MemL) (mS' : Mem) (mB' : Mem) (mO' : Mem) (mR' : Mem) (mA' : Mem) (nA' : MemL) (hE : f_X4_passHour imP inP imS imB imO imR imA inA = some (mP', nP', mS', mB', mO', mR', mA', nA')) : CV l yX4_passHour wsX4_passHour rm_X4_passHour D cy [.ref (aP 0)] (W_Pl cy aP aS aB aO aR aA imP inP imS imB imO imR imA inA) 0 0 (W_Pl cy aP aS aB aO aR aA mP' nP' mS' mB' mO' mR' mA' nA') := by
  refine CQ_of (cc := cX4_passHour) (maxL := 5) (ret := none) (by decide) rfl (Nat.le_of_ble_eq_true rfl) (fun p e s m args below meth c A ls hx hb hr hml hlocks hnm hown hts hA hK hN hP hD hS hl => ?_)
  have hown : s.vm.findClass RX4 = some m.cls := hown
  have hl : lv_has ls 5 [(0, .ref (aP 0))] := hl
  have hC : CallFix p m c cX4_passHour 5 s args wsX4_passHour RX4 := ⟨hx, hb, hml, hown, hts⟩
  have f9 : (Cond.fieldLink RX4 9 "IcePlant$Plant" "settings" "[I").before args s = true := hts _ (mC qf_X4_9)
  have f22 : (Cond.fieldLink RX4 22 "IcePlant$Plant" "temperatures" "[I").before args s = true := hts _ (mC qf_X4_22)
  have f28 : (Cond.fieldLink RX4 28 "IcePlant$Plant" "store" "LIcePlant$Store;").before args s = true := hts _ (mC qf_X4_28)
  have f35 : (Cond.fieldLink RX4 35 "IcePlant$Plant" "boats" "LIcePlant$Boats;").before args s = true := hts _ (mC qf_X4_35)
  have f42 : (Cond.fieldLink RX4 42 "IcePlant$Plant" "orders" "LIcePlant$Orders;").before args s = true := hts _ (mC qf_X4_42)
  have f76 : (Cond.fieldLink RX4 76 "IcePlant$Plant" "time" "I").before args s = true := hts _ (mC qf_X4_76)
  have f114 : (Cond.fieldLink RX4 114 "IcePlant$Orders" "sequence" "[I").before args s = true := hts _ (mC qf_X4_114)
  have iX3 : ∀ w ∈ wsX30, w ∈ wsX4_passHour := fun w h => mC (iA_X3 w h)
  have iX4 : ∀ w ∈ wsX40, w ∈ wsX4_passHour := fun w h => mC (iA_X4 w h)
  have in_X8 : (Cond.initialized RX8).before args s = true := hts _ (mC qn_X8)
  have st_X8_valueAt : (Cond.static yX8_valueAt).before args s = true := hts _ (mC qs_X8_valueAt)
  have h94 : ∀ (x1 : Int32) (x3 : Int32) (x4 : Int32) (t0 : Int32) (t1 : Int32) (mP : Mem) (nP : MemL) (mS : Mem) (mB : Mem) (mO : Mem) (mR : Mem) (mA : Mem) (nA : MemL), ∀ (k58 : (Int32 → Mem → MemL → Mem → Mem → Mem → Mem → Mem → MemL → Option (Mem × MemL × Mem × Mem × Mem × Mem × Mem × MemL))), (∀ (x4 : Int32) (mP : Mem) (nP : MemL) (mS : Mem) (mB : Mem) (mO : Mem) (mR : Mem) (mA : Mem) (nA : MemL) (H : Heap) (locs : List Loc) (ls : Array Slot), k58 x4 mP nP mS mB mO mR mA nA = some (mP', nP', mS', mB', mO', mR', mA', nA') → va_P D vwCl (W_Pl cy aP aS aB aO aR aA mP nP mS mB mO mR mA nA) H → va_D A (W_Pl cy aP aS aB aO aR aA mP nP mS mB mO mR mA nA) → va_S A s.heap H locs → lv_has ls 5 [(0, .ref (aP 0)), (1, .int x1), (3, .int x3), (4, .int x4)] → W p l e rm_X4_passHour s m args below meth c H locs 0 0 (MQ below (QV D cy (W_Pl cy aP aS aB aO aR aA mP' nP' mS' mB' mO' mR' mA' nA') A) args s 0 0 A) (F0 m 58 ls [])) → ∀  (H : Heap) (locs : List Loc) (ls : Array Slot), f_X4_passHour_b94 k58 x1 x3 x4 t0 t1 mP nP mS mB mO mR mA nA = some (mP', nP', mS', mB', mO', mR', mA', nA') → va_P D vwCl (W_Pl cy aP aS aB aO aR aA mP nP mS mB mO mR mA nA) H → va_D A (W_Pl cy aP aS aB aO aR aA mP nP mS mB mO mR mA nA) → va_S A s.heap H locs → lv_has ls 5 [(0, .ref (aP 0)), (1, .int x1), (3, .int x3), (4, .int x4)] → W p l e rm_X4_passHour s m args below meth c H locs 0 0 (MQ below (QV D cy (W_Pl cy aP aS aB aO aR aA mP' nP' mS' mB' mO' mR' mA' nA') A) args s 0 0 A) (F0 m 94 ls [.int t0, .int t1, .ref (aP 0)]) := by
    intro x1 x3 x4 t0 t1 mP nP mS mB mO mR mA nA k58 hk58 H locs ls hE hP hD hS hl
    replace hE : (bd8 (f_X4_serve t1 t0 mP nP mS mB mO mR mA nA) fun mP_1 nP_2 mS_3 mB_4 mO_5 mR_6 mA_7 nA_8 => lt' (x4 + (1 : Int32)) fun x4_10 => k58 x4_10 mP_1 nP_2 mS_3 mB_4 mO_5 mR_6 mA_7 nA_8) = some (mP', nP', mS', mB', mO', mR', mA', nA') := hE
    obtain ⟨mP_1, nP_2, mS_3, mB_4, mO_5, mR_6, mA_7, nA_8, hc_9, hE⟩ := bd8_el hE
    refine kv (X := []) (Y := []) (ws1 := (W_Pl cy aP aS aB aO aR aA mP_1 nP_2 mS_3 mB_4 mO_5 mR_6 mA_7 nA_8)) (rV (X := []) (Y := []) (As := [.int t1, .int t0]) (rest := []) hC (c_X4_serve l D cy aP aS aB aO aR aA t1 t0 mP nP mS mB mO mR mA nA mP_1 nP_2 mS_3 mB_4 mO_5 mR_6 mA_7 nA_8 hc_9) (cwV 2 hts gX4_passHour_X4_serve rfl rfl rfl cd_X4_serve ⟨Nat.le_of_ble_eq_true rfl, Nat.le_of_ble_eq_true rfl⟩) hK hN hP hD hS hA rfl 0 4 rfl rfl rfl hl.1 rfl (lv_room (Nat.le_of_ble_eq_true rfl)) dX4_passHour_94 ⟨Nat.le_of_ble_eq_true rfl, Nat.le_of_ble_eq_true rfl⟩) hP hD hS hA rfl rfl rfl (fun H locs hP hD hS => ?_)
    obtain ⟨x4_10, e_x4_10, hE⟩ := lt_el hE
    refine lv_iinc (v := x4_10) (lv' := [(4, .int x4_10), (0, .ref (aP 0)), (1, .int x1), (3, .int x3)]) hx hb dX4_passHour_97 hl (k := 3) rfl (by rw [e_x4_10]; rfl) (by decide) rfl (fun ls hl => ?_)
    refine lv_goto (tgt := 58) hx hb dX4_passHour_100 (by decide) ?_
    exact hk58 x4_10 mP_1 nP_2 mS_3 mB_4 mO_5 mR_6 mA_7 nA_8 _ _ _ hE hP hD hS (lv_sub hl [1, 2, 3, 0] rfl)
  have h93 : ∀ (x1 : Int32) (x3 : Int32) (x4 : Int32) (t0 : Int32) (mP : Mem) (nP : MemL) (mS : Mem) (mB : Mem) (mO : Mem) (mR : Mem) (mA : Mem) (nA : MemL), ∀ (k58 : (Int32 → Mem → MemL → Mem → Mem → Mem → Mem → Mem → MemL → Option (Mem × MemL × Mem × Mem × Mem × Mem × Mem × MemL))), (∀ (x4 : Int32) (mP : Mem) (nP : MemL) (mS : Mem) (mB : Mem) (mO : Mem) (mR : Mem) (mA : Mem) (nA : MemL) (H : Heap) (locs : List Loc) (ls : Array Slot), k58 x4 mP nP mS mB mO mR mA nA = some (mP', nP', mS', mB', mO', mR', mA', nA') → va_P D vwCl (W_Pl cy aP aS aB aO aR aA mP nP mS mB mO mR mA nA) H → va_D A (W_Pl cy aP aS aB aO aR aA mP nP mS mB mO mR mA nA) → va_S A s.heap H locs → lv_has ls 5 [(0, .ref (aP 0)), (1, .int x1), (3, .int x3), (4, .int x4)] → W p l e rm_X4_passHour s m args below meth c H locs 0 0 (MQ below (QV D cy (W_Pl cy aP aS aB aO aR aA mP' nP' mS' mB' mO' mR' mA' nA') A) args s 0 0 A) (F0 m 58 ls [])) → ∀  (H : Heap) (locs : List Loc) (ls : Array Slot), f_X4_passHour_b93 k58 x1 x3 x4 t0 mP nP mS mB mO mR mA nA = some (mP', nP', mS', mB', mO', mR', mA', nA') → va_P D vwCl (W_Pl cy aP aS aB aO aR aA mP nP mS mB mO mR mA nA) H → va_D A (W_Pl cy aP aS aB aO aR aA mP nP mS mB mO mR mA nA) → va_S A s.heap H locs → lv_has ls 5 [(0, .ref (aP 0)), (1, .int x1), (3, .int x3), (4, .int x4)] → W p l e rm_X4_passHour s m args below meth c H locs 0 0 (MQ below (QV D cy (W_Pl cy aP aS aB aO aR aA mP' nP' mS' mB' mO' mR' mA' nA') A) args s 0 0 A) (F0 m 93 ls [.int t0, .ref (aP 0)]) := by
    intro x1 x3 x4 t0 mP nP mS mB mO mR mA nA k58 hk58 H locs ls hE hP hD hS hl
    replace hE : (f_X4_passHour_b94 k58 x1 x3 x4 (0 : Int32) t0 mP nP mS mB mO mR mA nA) = some (mP', nP', mS', mB', mO', mR', mA', nA') := hE
    refine lv_iconst (v := 0) hx hb dX4_passHour_93 (by decide) ?_
    exact h94 x1 x3 x4 (0 : Int32) t0 mP nP mS mB mO mR mA nA k58 hk58 _ _ _ hE hP hD hS (lv_sub hl [0, 1, 2, 3] rfl)
  have h58 : ∀ (x1 : Int32) (x3 : Int32), ∀ (n : Nat), ∀ (x4 : Int32) (mP : Mem) (nP : MemL) (mS : Mem) (mB : Mem) (mO : Mem) (mR : Mem) (mA : Mem) (nA : MemL) (H : Heap) (locs : List Loc) (ls : Array Slot), f_X4_passHour_L58 x1 x3 n x4 mP nP mS mB mO mR mA nA = some (mP', nP', mS', mB', mO', mR', mA', nA') → va_P D vwCl (W_Pl cy aP aS aB aO aR aA mP nP mS mB mO mR mA nA) H → va_D A (W_Pl cy aP aS aB aO aR aA mP nP mS mB mO mR mA nA) → va_S A s.heap H locs → lv_has ls 5 [(0, .ref (aP 0)), (1, .int x1), (3, .int x3), (4, .int x4)] → W p l e rm_X4_passHour s m args below meth c H locs 0 0 (MQ below (QV D cy (W_Pl cy aP aS aB aO aR aA mP' nP' mS' mB' mO' mR' mA' nA') A) args s 0 0 A) (F0 m 58 ls []) := by
    intro x1 x3 n
    induction n with
    | zero => intro x4 mP nP mS mB mO mR mA nA H locs ls hE; exact absurd hE (fun h9 => nomatch h9)
    | succ n ih =>
      intro x4 mP nP mS mB mO mR mA nA H locs ls hE hP hD hS hl
      replace hE : ((if x3 ≤ x4 then bd1 (f_X3_expire mO) fun mO_12 => bd1 (f_X6_growOlder mS) fun mS_14 => lt' (wrI mP 7 (fun _ => ((mP 7 0) + (1 : Int32)))) fun mP_16 => some (mP_16, nP, mS_14, mB, mO_12, mR, mA, nA) else bd1 (f_X8_valueAt x4 (20) (mO 9)) fun r_17 => (if x1 < (6 : Int32) then f_X4_passHour_b93 (f_X4_passHour_L58 x1 x3 n) x1 x3 x4 r_17 mP nP mS mB mO mR mA nA else (if (21 : Int32) < x1 then f_X4_passHour_b93 (f_X4_passHour_L58 x1 x3 n) x1 x3 x4 r_17 mP nP mS mB mO mR mA nA else f_X4_passHour_b94 (f_X4_passHour_L58 x1 x3 n) x1 x3 x4 (1 : Int32) r_17 mP nP mS mB mO mR mA nA)))) = some (mP', nP', mS', mB', mO', mR', mA', nA') := hE
      refine lv_iload hx hb dX4_passHour_58 (lv_at hl 3 rfl) ?_
      refine lv_iload_n hx hb dX4_passHour_60 rfl (lv_at hl 2 rfl) ?_
      refine lv_icmp_ge (tgt := 103) hx hb dX4_passHour_61 (by decide) (fun c_11 => ?_) (fun c_11 => ?_)
      · replace hE := it_t hE c_11
        refine lv_aload_n hx hb dX4_passHour_103 rfl (lv_at hl 0 rfl) ?_
        refine va_get (D := D) (ci := 4) (v := .ref (aO 0)) (C := RX4) (T := TX4) (N := 13) hx hb hts iX4 hown hK hP 0 rfl rfl 4 (by decide) f42 (fun _ h9 => h9) rfl dX4_passHour_104 ?_
        obtain ⟨mO_12, hc_13, hE⟩ := bd1_el hE
        refine kv (X := ((W_P cy aP aS aB aO aR aA mP nP) ++ ((W_S cy aS mS) ++ (W_B cy aB mB)))) (Y := ((W_R cy aR mR) ++ (W_A cy aA mA nA))) (ws1 := (W_Pl cy aP aS aB aO aR aA mP nP mS mB mO_12 mR mA nA)) (rV (X := ((W_P cy aP aS aB aO aR aA mP nP) ++ ((W_S cy aS mS) ++ (W_B cy aB mB)))) (Y := ((W_R cy aR mR) ++ (W_A cy aA mA nA))) (As := []) (rest := []) hC (c_X3_expire l D cy aO mO mO_12 hc_13) (cwV 0 hts gX4_passHour_X3_expire rfl rfl rfl cd_X3_expire ⟨Nat.le_of_ble_eq_true rfl, Nat.le_of_ble_eq_true rfl⟩) hK hN hP hD hS hA rfl 0 3 rfl rfl rfl hl.1 rfl (lv_room (Nat.le_of_ble_eq_true rfl)) dX4_passHour_107 ⟨Nat.le_of_ble_eq_true rfl, Nat.le_of_ble_eq_true rfl⟩) hP hD hS hA rfl rfl rfl (fun H locs hP hD hS => ?_)
        refine lv_aload_n hx hb dX4_passHour_110 rfl (lv_at hl 0 rfl) ?_
        refine va_get (D := D) (ci := 4) (v := .ref (aS 0)) (C := RX4) (T := TX4) (N := 13) hx hb hts iX4 hown hK hP 0 rfl rfl 2 (by decide) f28 (fun _ h9 => h9) rfl dX4_passHour_111 ?_
        obtain ⟨mS_14, hc_15, hE⟩ := bd1_el hE
        refine kv (X := (W_P cy aP aS aB aO aR aA mP nP)) (Y := ((W_B cy aB mB) ++ ((W_O cy aO mO_12) ++ ((W_R cy aR mR) ++ (W_A cy aA mA nA))))) (ws1 := (W_Pl cy aP aS aB aO aR aA mP nP mS_14 mB mO_12 mR mA nA)) (rV (X := (W_P cy aP aS aB aO aR aA mP nP)) (Y := ((W_B cy aB mB) ++ ((W_O cy aO mO_12) ++ ((W_R cy aR mR) ++ (W_A cy aA mA nA))))) (As := []) (rest := []) hC (c_X6_growOlder l D cy aS mS mS_14 hc_15) (cwV 0 hts gX4_passHour_X6_growOlder rfl rfl rfl cd_X6_growOlder ⟨Nat.le_of_ble_eq_true rfl, Nat.le_of_ble_eq_true rfl⟩) hK hN hP hD hS hA rfl 0 6 rfl rfl rfl hl.1 rfl (lv_room (Nat.le_of_ble_eq_true rfl)) dX4_passHour_114 ⟨Nat.le_of_ble_eq_true rfl, Nat.le_of_ble_eq_true rfl⟩) hP hD hS hA rfl rfl rfl (fun H locs hP hD hS => ?_)
        refine lv_aload_n hx hb dX4_passHour_117 rfl (lv_at hl 0 rfl) ?_
        refine lv_dup hx hb dX4_passHour_118 rfl ?_
        refine va_get (D := D) (ci := 4) (v := .int (mP 7 0)) (C := RX4) (T := TX4) (N := 13) hx hb hts iX4 hown hK hP 0 rfl rfl 7 (by decide) f76 (fun _ h9 => h9) rfl dX4_passHour_119 ?_
        refine lv_iconst (v := 1) hx hb dX4_passHour_122 (by decide) ?_
        refine lv_iadd hx hb dX4_passHour_123 ?_
        obtain ⟨mP_16, e_mP_16, hE⟩ := lt_el hE
        refine s_pf (own := RX4) (C := RX4) (T := TX4) (N := 13) (ci := 4) (ws1 := (W_Pl cy aP aS aB aO aR aA mP_16 nP mS_14 mB mO_12 mR mA nA)) hx hb hts iX4 tyX4 tyX4_ok nmX4 hown hK hP hD hS 0 rfl rfl 7 (by decide) f76 rfl rfl rfl rfl (Nat.le_of_ble_eq_true rfl) (by rw [e_mP_16]; rfl) dX4_passHour_124 (fun H locs hP hD hS => ?_)
        have hE := Option.some.inj hE
        obtain ⟨q0, hE⟩ := Prod.mk.inj hE
        obtain ⟨q1, hE⟩ := Prod.mk.inj hE
        obtain ⟨q2, hE⟩ := Prod.mk.inj hE
        obtain ⟨q3, hE⟩ := Prod.mk.inj hE
        obtain ⟨q4, hE⟩ := Prod.mk.inj hE
        obtain ⟨q5, hE⟩ := Prod.mk.inj hE
        obtain ⟨q6, q7⟩ := Prod.mk.inj hE
        exact ev hx hb hr hlocks hK hP hD hS (by rw [q0, q1, q2, q3, q4, q5, q6, q7]) dX4_passHour_127
      · replace hE := it_f hE c_11
        refine lv_aload_n hx hb dX4_passHour_64 rfl (lv_at hl 0 rfl) ?_
        refine lv_aload_n hx hb dX4_passHour_65 rfl (lv_at hl 0 rfl) ?_
        refine va_get (D := D) (ci := 4) (v := .ref (aO 0)) (C := RX4) (T := TX4) (N := 13) hx hb hts iX4 hown hK hP 0 rfl rfl 4 (by decide) f42 (fun _ h9 => h9) rfl dX4_passHour_66 ?_
        refine va_get (D := D) (ci := 3) (v := .ref (aO 10)) (C := RX3) (T := TX3) (N := 10) hx hb hts iX3 hown hK hP 16 rfl rfl 9 (by decide) f114 (fun _ h9 => h9) rfl dX4_passHour_69 ?_
        refine lv_iload hx hb dX4_passHour_72 (lv_at hl 3 rfl) ?_
        obtain ⟨r_17, hc_18, hE⟩ := bd1_el hE
        refine ki (X := (List.take 24 (W_Pl cy aP aS aB aO aR aA mP nP mS mB mO mR mA nA))) (Y := (List.drop 25 (W_Pl cy aP aS aB aO aR aA mP nP mS mB mO mR mA nA))) (ws1 := (W_Pl cy aP aS aB aO aR aA mP nP mS mB mO mR mA nA)) (rSN (X := (List.take 24 (W_Pl cy aP aS aB aO aR aA mP nP mS mB mO mR mA nA))) (Y := (List.drop 25 (W_Pl cy aP aS aB aO aR aA mP nP mS mB mO mR mA nA))) (As := [.ref (aO 10), .int x4]) (rest := [.ref (aP 0)]) hC (c_X8_valueAt l D cy (aO 10) x4 (20) (mO 9) r_17 hc_18) (va_cnB 2 hts gX4_passHour_X8_valueAt_n99 rfl rfl rfl (hN.1 7 _ rfl) in_X8 cd_X8_valueAt.2 ⟨Nat.le_of_ble_eq_true rfl, Nat.le_of_ble_eq_true rfl⟩) st_X8_valueAt hK hN hP hD hS hA rfl rfl hl.1 rfl (lv_room (Nat.le_of_ble_eq_true rfl)) dX4_passHour_74 ⟨Nat.le_of_ble_eq_true rfl, Nat.le_of_ble_eq_true rfl⟩) hP hD hS hA rfl rfl rfl (fun H locs hP hD hS => ?_)
        refine lv_iload_n hx hb dX4_passHour_77 rfl (lv_at hl 1 rfl) ?_
        refine lv_bipush (v := 6) hx hb dX4_passHour_78 (by decide) ?_
        refine lv_icmp_lt (tgt := 93) hx hb dX4_passHour_80 (by decide) (fun c_19 => ?_) (fun c_19 => ?_)
        · replace hE := it_t hE c_19
          exact h93 x1 x3 x4 r_17 mP nP mS mB mO mR mA nA (f_X4_passHour_L58 x1 x3 n) ih _ _ _ hE hP hD hS (lv_sub hl [0, 1, 2, 3] rfl)
        · replace hE := it_f hE c_19
          refine lv_iload_n hx hb dX4_passHour_83 rfl (lv_at hl 1 rfl) ?_
          refine lv_bipush (v := 21) hx hb dX4_passHour_84 (by decide) ?_
          refine lv_icmp_gt (tgt := 93) hx hb dX4_passHour_86 (by decide) (fun c_20 => ?_) (fun c_20 => ?_)
          · replace hE := it_t hE c_20
            exact h93 x1 x3 x4 r_17 mP nP mS mB mO mR mA nA (f_X4_passHour_L58 x1 x3 n) ih _ _ _ hE hP hD hS (lv_sub hl [0, 1, 2, 3] rfl)
          · replace hE := it_f hE c_20
            refine lv_iconst (v := 1) hx hb dX4_passHour_89 (by decide) ?_
            refine lv_goto (tgt := 94) hx hb dX4_passHour_90 (by decide) ?_
            exact h94 x1 x3 x4 (1 : Int32) r_17 mP nP mS mB mO mR mA nA (f_X4_passHour_L58 x1 x3 n) ih _ _ _ hE hP hD hS (lv_sub hl [0, 1, 2, 3] rfl)
  have h30 : ∀ (x1 : Int32) (t0 : Int32) (mP : Mem) (nP : MemL) (mS : Mem) (mB : Mem) (mO : Mem) (mR : Mem) (mA : Mem) (nA : MemL), ∀  (H : Heap) (locs : List Loc) (ls : Array Slot), f_X4_passHour_b30 x1 t0 mP nP mS mB mO mR mA nA = some (mP', nP', mS', mB', mO', mR', mA', nA') → va_P D vwCl (W_Pl cy aP aS aB aO aR aA mP nP mS mB mO mR mA nA) H → va_D A (W_Pl cy aP aS aB aO aR aA mP nP mS mB mO mR mA nA) → va_S A s.heap H locs → lv_has ls 5 [(0, .ref (aP 0)), (1, .int x1)] → W p l e rm_X4_passHour s m args below meth c H locs 0 0 (MQ below (QV D cy (W_Pl cy aP aS aB aO aR aA mP' nP' mS' mB' mO' mR' mA' nA') A) args s 0 0 A) (F0 m 30 ls [.int t0, .ref (aS 0)]) := by
    intro x1 t0 mP nP mS mB mO mR mA nA H locs ls hE hP hD hS hl
    replace hE : (bd1 (f_X6_melt t0 mS) fun mS_21 => bd2 (f_X4_produce mP nP mS_21 mB mO mR mA nA) fun mP_23 mS_24 => bd2 (f_X3_arrange (mP_23 0 (2 : Int32).toNatClampNeg) mB mO) fun r_26 mO_27 => f_X4_passHour_L58 x1 r_26 fuel (0 : Int32) mP_23 nP mS_24 mB mO_27 mR mA nA) = some (mP', nP', mS', mB', mO', mR', mA', nA') := hE
    obtain ⟨mS_21, hc_22, hE⟩ := bd1_el hE
    refine kv (X := (W_P cy aP aS aB aO aR aA mP nP)) (Y := ((W_B cy aB mB) ++ ((W_O cy aO mO) ++ ((W_R cy aR mR) ++ (W_A cy aA mA nA))))) (ws1 := (W_Pl cy aP aS aB aO aR aA mP nP mS_21 mB mO mR mA nA)) (rV (X := (W_P cy aP aS aB aO aR aA mP nP)) (Y := ((W_B cy aB mB) ++ ((W_O cy aO mO) ++ ((W_R cy aR mR) ++ (W_A cy aA mA nA))))) (As := [.int t0]) (rest := []) hC (c_X6_melt l D cy aS t0 mS mS_21 hc_22) (cwV 1 hts gX4_passHour_X6_melt rfl rfl rfl cd_X6_melt ⟨Nat.le_of_ble_eq_true rfl, Nat.le_of_ble_eq_true rfl⟩) hK hN hP hD hS hA rfl 0 6 rfl rfl rfl hl.1 rfl (lv_room (Nat.le_of_ble_eq_true rfl)) dX4_passHour_30 ⟨Nat.le_of_ble_eq_true rfl, Nat.le_of_ble_eq_true rfl⟩) hP hD hS hA rfl rfl rfl (fun H locs hP hD hS => ?_)
    refine lv_aload_n hx hb dX4_passHour_33 rfl (lv_at hl 0 rfl) ?_
    obtain ⟨mP_23, mS_24, hc_25, hE⟩ := bd2_el hE
    refine kv (X := []) (Y := []) (ws1 := (W_Pl cy aP aS aB aO aR aA mP_23 nP mS_24 mB mO mR mA nA)) (rV (X := []) (Y := []) (As := []) (rest := []) hC (c_X4_produce l D cy aP aS aB aO aR aA mP nP mS_21 mB mO mR mA nA mP_23 mS_24 hc_25) (cwV 0 hts gX4_passHour_X4_produce rfl rfl rfl cd_X4_produce ⟨Nat.le_of_ble_eq_true rfl, Nat.le_of_ble_eq_true rfl⟩) hK hN hP hD hS hA rfl 0 4 rfl rfl rfl hl.1 rfl (lv_room (Nat.le_of_ble_eq_true rfl)) dX4_passHour_34 ⟨Nat.le_of_ble_eq_true rfl, Nat.le_of_ble_eq_true rfl⟩) hP hD hS hA rfl rfl rfl (fun H locs hP hD hS => ?_)
    refine lv_aload_n hx hb dX4_passHour_37 rfl (lv_at hl 0 rfl) ?_
    refine va_get (D := D) (ci := 4) (v := .ref (aO 0)) (C := RX4) (T := TX4) (N := 13) hx hb hts iX4 hown hK hP 0 rfl rfl 4 (by decide) f42 (fun _ h9 => h9) rfl dX4_passHour_38 ?_
    refine lv_aload_n hx hb dX4_passHour_41 rfl (lv_at hl 0 rfl) ?_
    refine va_get (D := D) (ci := 4) (v := .ref (aP 1)) (C := RX4) (T := TX4) (N := 13) hx hb hts iX4 hown hK hP 0 rfl rfl 0 (by decide) f9 (fun _ h9 => h9) rfl dX4_passHour_42 ?_
    refine lv_iconst (v := 2) hx hb dX4_passHour_45 (by decide) ?_
    refine va_iald hx hb hK hP 1 0 rfl rfl (show ¬ ((2 : Int32) < 0 ∨ 8 ≤ (2 : Int32).toNatClampNeg) by decide) dX4_passHour_46 ?_
    refine lv_aload_n hx hb dX4_passHour_47 rfl (lv_at hl 0 rfl) ?_
    refine va_get (D := D) (ci := 4) (v := .ref (aB 0)) (C := RX4) (T := TX4) (N := 13) hx hb hts iX4 hown hK hP 0 rfl rfl 3 (by decide) f35 (fun _ h9 => h9) rfl dX4_passHour_48 ?_
    obtain ⟨r_26, mO_27, hc_28, hE⟩ := bd2_el hE
    refine ki (X := ((W_P cy aP aS aB aO aR aA mP_23 nP) ++ (W_S cy aS mS_24))) (Y := ((W_R cy aR mR) ++ (W_A cy aA mA nA))) (ws1 := (W_Pl cy aP aS aB aO aR aA mP_23 nP mS_24 mB mO_27 mR mA nA)) (rV (X := ((W_P cy aP aS aB aO aR aA mP_23 nP) ++ (W_S cy aS mS_24))) (Y := ((W_R cy aR mR) ++ (W_A cy aA mA nA))) (As := [.int (mP_23 0 (2 : Int32).toNatClampNeg), .ref (aB 0)]) (rest := []) hC (c_X3_arrange l D cy aB aO (mP_23 0 (2 : Int32).toNatClampNeg) mB mO r_26 mO_27 hc_28) (cwV 2 hts gX4_passHour_X3_arrange rfl rfl rfl cd_X3_arrange ⟨Nat.le_of_ble_eq_true rfl, Nat.le_of_ble_eq_true rfl⟩) hK hN hP hD hS hA rfl 4 3 rfl rfl rfl hl.1 rfl (lv_room (Nat.le_of_ble_eq_true rfl)) dX4_passHour_51 ⟨Nat.le_of_ble_eq_true rfl, Nat.le_of_ble_eq_true rfl⟩) hP hD hS hA rfl rfl rfl (fun H locs hP hD hS => ?_)
    refine lv_istore_n (lv' := [(3, .int r_26), (0, .ref (aP 0)), (1, .int x1)]) hx hb dX4_passHour_54 rfl hl (by decide) rfl (fun ls hl => ?_)
    refine lv_iconst (v := 0) hx hb dX4_passHour_55 (by decide) ?_
    refine lv_istore (lv' := [(4, .int (0 : Int32)), (3, .int r_26), (0, .ref (aP 0)), (1, .int x1)]) hx hb dX4_passHour_56 hl (by decide) rfl (fun ls hl => ?_)
    exact h58 x1 r_26 fuel (0 : Int32) mP_23 nP mS_24 mB mO_27 mR mA nA _ _ _ hE hP hD hS (lv_sub hl [2, 3, 1, 0] rfl)
  unfold f_X4_passHour at hE
  refine lv_aload_n hx hb dX4_passHour_0 rfl (lv_at hl 0 rfl) ?_
  refine va_get (D := D) (ci := 4) (v := .int (imP 7 0)) (C := RX4) (T := TX4) (N := 13) hx hb hts iX4 hown hK hP 0 rfl rfl 7 (by decide) f76 (fun _ h9 => h9) rfl dX4_passHour_1 ?_
  refine lv_bipush (v := 24) hx hb dX4_passHour_4 (by decide) ?_
  refine lv_irem hx hb dX4_passHour_6 (by decide) ?_
  obtain ⟨x1_29, e_x1_29, hE⟩ := lt_el hE
  refine s_nm e_x1_29 ?_
  refine lv_istore_n (lv' := [(1, .int x1_29), (0, .ref (aP 0))]) hx hb dX4_passHour_7 rfl hl (by decide) rfl (fun ls hl => ?_)
  refine lv_aload_n hx hb dX4_passHour_8 rfl (lv_at hl 1 rfl) ?_
  refine va_get (D := D) (ci := 4) (v := .ref (aP 2)) (C := RX4) (T := TX4) (N := 13) hx hb hts iX4 hown hK hP 0 rfl rfl 1 (by decide) f22 (fun _ h9 => h9) rfl dX4_passHour_9 ?_
  refine lv_iload_n hx hb dX4_passHour_12 rfl (lv_at hl 0 rfl) ?_
  obtain ⟨r_30, hc_31, hE⟩ := bd1_el hE
  refine ki (X := (List.take 2 (W_Pl cy aP aS aB aO aR aA imP inP imS imB imO imR imA inA))) (Y := (List.drop 3 (W_Pl cy aP aS aB aO aR aA imP inP imS imB imO imR imA inA))) (ws1 := (W_Pl cy aP aS aB aO aR aA imP inP imS imB imO imR imA inA)) (rSN (X := (List.take 2 (W_Pl cy aP aS aB aO aR aA imP inP imS imB imO imR imA inA))) (Y := (List.drop 3 (W_Pl cy aP aS aB aO aR aA imP inP imS imB imO imR imA inA))) (As := [.ref (aP 2), .int x1_29]) (rest := []) hC (c_X8_valueAt l D cy (aP 2) x1_29 (24) (imP 1) r_30 hc_31) (va_cnB 2 hts gX4_passHour_X8_valueAt_n99 rfl rfl rfl (hN.1 7 _ rfl) in_X8 cd_X8_valueAt.2 ⟨Nat.le_of_ble_eq_true rfl, Nat.le_of_ble_eq_true rfl⟩) st_X8_valueAt hK hN hP hD hS hA rfl rfl hl.1 rfl (lv_room (Nat.le_of_ble_eq_true rfl)) dX4_passHour_13 ⟨Nat.le_of_ble_eq_true rfl, Nat.le_of_ble_eq_true rfl⟩) hP hD hS hA rfl rfl rfl (fun H locs hP hD hS => ?_)
  refine lv_istore_n (lv' := [(2, .int r_30), (1, .int x1_29), (0, .ref (aP 0))]) hx hb dX4_passHour_16 rfl hl (by decide) rfl (fun ls hl => ?_)
  refine lv_aload_n hx hb dX4_passHour_17 rfl (lv_at hl 2 rfl) ?_
  refine va_get (D := D) (ci := 4) (v := .ref (aS 0)) (C := RX4) (T := TX4) (N := 13) hx hb hts iX4 hown hK hP 0 rfl rfl 2 (by decide) f28 (fun _ h9 => h9) rfl dX4_passHour_18 ?_
  refine lv_iload_n hx hb dX4_passHour_21 rfl (lv_at hl 0 rfl) ?_
  refine lv_if_le (tgt := 29) hx hb dX4_passHour_22 (by decide) (fun c_32 => ?_) (fun c_32 => ?_)
  · replace hE := it_t hE c_32
    refine lv_iconst (v := 0) hx hb dX4_passHour_29 (by decide) ?_
    exact h30 x1_29 (0 : Int32) imP inP imS imB imO imR imA inA _ _ _ hE hP hD hS (lv_sub hl [2, 1] rfl)
  · replace hE := it_f hE c_32
    refine lv_iload_n hx hb dX4_passHour_25 rfl (lv_at hl 0 rfl) ?_
    refine lv_goto (tgt := 30) hx hb dX4_passHour_26 (by decide) ?_
    exact h30 x1_29 r_30 imP inP imS imB imO imR imA inA _ _ _ hE hP hD hS (lv_sub hl [2, 1] rfl)
abbrev rm_X4_letPass : Room := { frames := 5, cells := 0, slots := 0, locals := 122 }
set_option maxHeartbeats 40000000 in
set_option maxRecDepth 100000 in
theorem c_X4_letPass (l : Launch) (D : va_G) (cy : Nat → Nat) (aP aS aB aO aR aA : Nat → Nat) (x1 : Int32) (imP : Mem) (inP : MemL) (imS : Mem) (imB : Mem) (imO : Mem) (imR : Mem) (imA : Mem) (inA : MemL) (r' : Int32) (mP' : Mem) (nP' : MemL) (mS' : Mem) (mB' : Mem) (mO' : Mem) (mR' : Mem) (mA' : Mem) (nA' : MemL) (hE : f_X4_letPass x1 imP inP imS imB imO imR imA inA = some (r', mP', nP', mS', mB', mO', mR', mA', nA')) : CI l yX4_letPass wsX4_letPass rm_X4_letPass D cy [.ref (aP 0), .int x1] (W_Pl cy aP aS aB aO aR aA imP inP imS imB imO imR imA inA) 0 0 r' (W_Pl cy aP aS aB aO aR aA mP' nP' mS' mB' mO' mR' mA' nA') := by
  refine CQ_of (cc := cX4_letPass) (maxL := 4) (ret := (some .int)) (by decide) rfl (Nat.le_of_ble_eq_true rfl) (fun p e s m args below meth c A ls hx hb hr hml hlocks hnm hown hts hA hK hN hP hD hS hl => ?_)
  have hown : s.vm.findClass RX4 = some m.cls := hown
  have hl : lv_has ls 4 [(0, .ref (aP 0)), (1, .int x1)] := hl
  have hC : CallFix p m c cX4_letPass 4 s args wsX4_letPass RX4 := ⟨hx, hb, hml, hown, hts⟩
  have f83 : (Cond.fieldLink RX4 83 "IcePlant$Plant" "deliveredMass" "I").before args s = true := hts _ (mC qf_X4_83)
  have iX4 : ∀ w ∈ wsX40, w ∈ wsX4_letPass := fun w h => mC (iA_X4 w h)
  have h7 : ∀ (x1 : Int32) (x2 : Int32), ∀ (n : Nat), ∀ (x3 : Int32) (mP : Mem) (nP : MemL) (mS : Mem) (mB : Mem) (mO : Mem) (mR : Mem) (mA : Mem) (nA : MemL) (H : Heap) (locs : List Loc) (ls : Array Slot), f_X4_letPass_L7 x1 x2 n x3 mP nP mS mB mO mR mA nA = some (r', mP', nP', mS', mB', mO', mR', mA', nA') → va_P D vwCl (W_Pl cy aP aS aB aO aR aA mP nP mS mB mO mR mA nA) H → va_D A (W_Pl cy aP aS aB aO aR aA mP nP mS mB mO mR mA nA) → va_S A s.heap H locs → lv_has ls 4 [(0, .ref (aP 0)), (1, .int x1), (2, .int x2), (3, .int x3)] → W p l e rm_X4_letPass s m args below meth c H locs 0 0 (MQ below (QI D cy r' (W_Pl cy aP aS aB aO aR aA mP' nP' mS' mB' mO' mR' mA' nA') A) args s 0 0 A) (F0 m 7 ls []) := by
    intro x1 x2 n
    induction n with
    | zero => intro x3 mP nP mS mB mO mR mA nA H locs ls hE; exact absurd hE (fun h9 => nomatch h9)
    | succ n ih =>
      intro x3 mP nP mS mB mO mR mA nA H locs ls hE hP hD hS hl
      replace hE : ((if x1 ≤ x3 then some (((mP 9 0) - x2), mP, nP, mS, mB, mO, mR, mA, nA) else bd8 (f_X4_passHour mP nP mS mB mO mR mA nA) fun mP_2 nP_3 mS_4 mB_5 mO_6 mR_7 mA_8 nA_9 => lt' (x3 + (1 : Int32)) fun x3_11 => (f_X4_letPass_L7 x1 x2 n) x3_11 mP_2 nP_3 mS_4 mB_5 mO_6 mR_7 mA_8 nA_9)) = some (r', mP', nP', mS', mB', mO', mR', mA', nA') := hE
      refine lv_iload_n hx hb dX4_letPass_7 rfl (lv_at hl 3 rfl) ?_
      refine lv_iload_n hx hb dX4_letPass_8 rfl (lv_at hl 1 rfl) ?_
      refine lv_icmp_ge (tgt := 22) hx hb dX4_letPass_9 (by decide) (fun c_1 => ?_) (fun c_1 => ?_)
      · replace hE := it_t hE c_1
        refine lv_aload_n hx hb dX4_letPass_22 rfl (lv_at hl 0 rfl) ?_
        refine va_get (D := D) (ci := 4) (v := .int (mP 9 0)) (C := RX4) (T := TX4) (N := 13) hx hb hts iX4 hown hK hP 0 rfl rfl 9 (by decide) f83 (fun _ h9 => h9) rfl dX4_letPass_23 ?_
        refine lv_iload_n hx hb dX4_letPass_26 rfl (lv_at hl 2 rfl) ?_
        refine lv_isub hx hb dX4_letPass_27 ?_
        have hE := Option.some.inj hE
        obtain ⟨q0, hE⟩ := Prod.mk.inj hE
        obtain ⟨q1, hE⟩ := Prod.mk.inj hE
        obtain ⟨q2, hE⟩ := Prod.mk.inj hE
        obtain ⟨q3, hE⟩ := Prod.mk.inj hE
        obtain ⟨q4, hE⟩ := Prod.mk.inj hE
        obtain ⟨q5, hE⟩ := Prod.mk.inj hE
        obtain ⟨q6, hE⟩ := Prod.mk.inj hE
        obtain ⟨q7, q8⟩ := Prod.mk.inj hE
        exact ei hx hb hr hlocks hK hP hD hS q0 (by rw [q1, q2, q3, q4, q5, q6, q7, q8]) dX4_letPass_28
      · replace hE := it_f hE c_1
        refine lv_aload_n hx hb dX4_letPass_12 rfl (lv_at hl 0 rfl) ?_
        obtain ⟨mP_2, nP_3, mS_4, mB_5, mO_6, mR_7, mA_8, nA_9, hc_10, hE⟩ := bd8_el hE
        refine kv (X := []) (Y := []) (ws1 := (W_Pl cy aP aS aB aO aR aA mP_2 nP_3 mS_4 mB_5 mO_6 mR_7 mA_8 nA_9)) (rV (X := []) (Y := []) (As := []) (rest := []) hC (c_X4_passHour l D cy aP aS aB aO aR aA mP nP mS mB mO mR mA nA mP_2 nP_3 mS_4 mB_5 mO_6 mR_7 mA_8 nA_9 hc_10) (cwV 0 hts gX4_letPass_X4_passHour rfl rfl rfl cd_X4_passHour ⟨Nat.le_of_ble_eq_true rfl, Nat.le_of_ble_eq_true rfl⟩) hK hN hP hD hS hA rfl 0 4 rfl rfl rfl hl.1 rfl (lv_room (Nat.le_of_ble_eq_true rfl)) dX4_letPass_13 ⟨Nat.le_of_ble_eq_true rfl, Nat.le_of_ble_eq_true rfl⟩) hP hD hS hA rfl rfl rfl (fun H locs hP hD hS => ?_)
        obtain ⟨x3_11, e_x3_11, hE⟩ := lt_el hE
        refine lv_iinc (v := x3_11) (lv' := [(3, .int x3_11), (0, .ref (aP 0)), (1, .int x1), (2, .int x2)]) hx hb dX4_letPass_16 hl (k := 3) rfl (by rw [e_x3_11]; rfl) (by decide) rfl (fun ls hl => ?_)
        refine lv_goto (tgt := 7) hx hb dX4_letPass_19 (by decide) ?_
        exact ih x3_11 mP_2 nP_3 mS_4 mB_5 mO_6 mR_7 mA_8 nA_9 _ _ _ hE hP hD hS (lv_sub hl [1, 2, 3, 0] rfl)
  unfold f_X4_letPass at hE
  refine lv_aload_n hx hb dX4_letPass_0 rfl (lv_at hl 0 rfl) ?_
  refine va_get (D := D) (ci := 4) (v := .int (imP 9 0)) (C := RX4) (T := TX4) (N := 13) hx hb hts iX4 hown hK hP 0 rfl rfl 9 (by decide) f83 (fun _ h9 => h9) rfl dX4_letPass_1 ?_
  obtain ⟨x2_12, e_x2_12, hE⟩ := lt_el hE
  refine s_nm e_x2_12 ?_
  refine lv_istore_n (lv' := [(2, .int x2_12), (0, .ref (aP 0)), (1, .int x1)]) hx hb dX4_letPass_4 rfl hl (by decide) rfl (fun ls hl => ?_)
  refine lv_iconst (v := 0) hx hb dX4_letPass_5 (by decide) ?_
  refine lv_istore_n (lv' := [(3, .int (0 : Int32)), (2, .int x2_12), (0, .ref (aP 0)), (1, .int x1)]) hx hb dX4_letPass_6 rfl hl (by decide) rfl (fun ls hl => ?_)
  exact h7 x1 x2_12 fuel (0 : Int32) imP inP imS imB imO imR imA inA _ _ _ hE hP hD hS (lv_sub hl [2, 3, 1, 0] rfl)
abbrev rm_X4_takePayment : Room := { frames := 2, cells := 0, slots := 0, locals := 43 }
set_option maxHeartbeats 40000000 in
set_option maxRecDepth 100000 in
theorem c_X4_takePayment (l : Launch) (D : va_G) (cy : Nat → Nat) (aP aS aB aO aR aA : Nat → Nat) (x1 : Int32) (x2 : Int32) (imP : Mem) (inP : MemL) (imS : Mem) (imB : Mem) (imO : Mem) (imR : Mem) (imA : Mem) (inA : MemL) (r' : Int32) (nP' : MemL) (mB' : Mem) (hE : f_X4_takePayment x1 x2 imP inP imS imB imO imR imA inA = some (r', nP', mB')) : CI l yX4_takePayment wsX4_takePayment rm_X4_takePayment D cy [.ref (aP 0), .int x1, .int x2] (W_Pl cy aP aS aB aO aR aA imP inP imS imB imO imR imA inA) 0 0 r' (W_Pl cy aP aS aB aO aR aA imP nP' imS mB' imO imR imA inA) := by
  refine CQ_of (cc := cX4_takePayment) (maxL := 3) (ret := (some .int)) (by decide) rfl (Nat.le_of_ble_eq_true rfl) (fun p e s m args below meth c A ls hx hb hr hml hlocks hnm hown hts hA hK hN hP hD hS hl => ?_)
  have hown : s.vm.findClass RX4 = some m.cls := hown
  have hl : lv_has ls 3 [(0, .ref (aP 0)), (1, .int x1), (2, .int x2)] := hl
  have hC : CallFix p m c cX4_takePayment 3 s args wsX4_takePayment RX4 := ⟨hx, hb, hml, hown, hts⟩
  have f35 : (Cond.fieldLink RX4 35 "IcePlant$Plant" "boats" "LIcePlant$Boats;").before args s = true := hts _ (mC qf_X4_35)
  have f93 : (Cond.fieldLink RX4 93 "IcePlant$Plant" "payments" "J").before args s = true := hts _ (mC qf_X4_93)
  have iX4 : ∀ w ∈ wsX40, w ∈ wsX4_takePayment := fun w h => mC (iA_X4 w h)
  unfold f_X4_takePayment at hE
  refine lv_aload_n hx hb dX4_takePayment_0 rfl (lv_at hl 0 rfl) ?_
  refine lv_dup hx hb dX4_takePayment_1 rfl ?_
  refine va_get (D := D) (ci := 4) (v := .long (inP 12 0)) (C := RX4) (T := TX4) (N := 13) hx hb hts iX4 hown hK hP 0 rfl rfl 12 (by decide) f93 (fun _ h9 => h9) rfl dX4_takePayment_2 ?_
  refine lv_iload_n hx hb dX4_takePayment_5 rfl (lv_at hl 2 rfl) ?_
  refine lv_i2l hx hb dX4_takePayment_6 rfl ?_
  refine lv_ladd hx hb dX4_takePayment_7 ?_
  obtain ⟨nP_1, e_nP_1, hE⟩ := lt_el hE
  refine s_pf (own := RX4) (C := RX4) (T := TX4) (N := 13) (ci := 4) (ws1 := (W_Pl cy aP aS aB aO aR aA imP nP_1 imS imB imO imR imA inA)) hx hb hts iX4 tyX4 tyX4_ok nmX4 hown hK hP hD hS 0 rfl rfl 12 (by decide) f93 rfl rfl rfl rfl (Nat.le_of_ble_eq_true rfl) (by rw [e_nP_1]; rfl) dX4_takePayment_8 (fun H locs hP hD hS => ?_)
  refine lv_aload_n hx hb dX4_takePayment_11 rfl (lv_at hl 0 rfl) ?_
  refine va_get (D := D) (ci := 4) (v := .ref (aB 0)) (C := RX4) (T := TX4) (N := 13) hx hb hts iX4 hown hK hP 0 rfl rfl 3 (by decide) f35 (fun _ h9 => h9) rfl dX4_takePayment_12 ?_
  refine lv_iload_n hx hb dX4_takePayment_15 rfl (lv_at hl 1 rfl) ?_
  refine lv_iload_n hx hb dX4_takePayment_16 rfl (lv_at hl 2 rfl) ?_
  obtain ⟨r_2, mB_3, hc_4, hE⟩ := bd2_el hE
  refine ki (X := ((W_P cy aP aS aB aO aR aA imP nP_1) ++ (W_S cy aS imS))) (Y := ((W_O cy aO imO) ++ ((W_R cy aR imR) ++ (W_A cy aA imA inA)))) (ws1 := (W_Pl cy aP aS aB aO aR aA imP nP_1 imS mB_3 imO imR imA inA)) (rV (X := ((W_P cy aP aS aB aO aR aA imP nP_1) ++ (W_S cy aS imS))) (Y := ((W_O cy aO imO) ++ ((W_R cy aR imR) ++ (W_A cy aA imA inA)))) (As := [.int x1, .int x2]) (rest := []) hC (c_X1_reduceDebt l D cy aB x1 x2 imB r_2 mB_3 hc_4) (cwV 2 hts gX4_takePayment_X1_reduceDebt rfl rfl rfl cd_X1_reduceDebt ⟨Nat.le_of_ble_eq_true rfl, Nat.le_of_ble_eq_true rfl⟩) hK hN hP hD hS hA rfl 0 1 rfl rfl rfl hl.1 rfl (lv_room (Nat.le_of_ble_eq_true rfl)) dX4_takePayment_17 ⟨Nat.le_of_ble_eq_true rfl, Nat.le_of_ble_eq_true rfl⟩) hP hD hS hA rfl rfl rfl (fun H locs hP hD hS => ?_)
  have hE := Option.some.inj hE
  obtain ⟨q0, hE⟩ := Prod.mk.inj hE
  obtain ⟨q1, q2⟩ := Prod.mk.inj hE
  exact ei hx hb hr hlocks hK hP hD hS q0 (by rw [q1, q2]) dX4_takePayment_20
abbrev rm_X4_ordersBefore : Room := { frames := 4, cells := 0, slots := 0, locals := 98 }
set_option maxHeartbeats 40000000 in
set_option maxRecDepth 100000 in
theorem c_X4_ordersBefore (l : Launch) (D : va_G) (cy : Nat → Nat) (aP aS aB aO aR aA : Nat → Nat) (x1 : Int32) (imP : Mem) (inP : MemL) (imS : Mem) (imB : Mem) (imO : Mem) (imR : Mem) (imA : Mem) (inA : MemL) (r' : Int32) (hE : f_X4_ordersBefore x1 imP inP imS imB imO imR imA inA = some r') : CI l yX4_ordersBefore wsX4_ordersBefore rm_X4_ordersBefore D cy [.ref (aP 0), .int x1] (W_Pl cy aP aS aB aO aR aA imP inP imS imB imO imR imA inA) 0 0 r' (W_Pl cy aP aS aB aO aR aA imP inP imS imB imO imR imA inA) := by
  refine CQ_of (cc := cX4_ordersBefore) (maxL := 2) (ret := (some .int)) (by decide) rfl (Nat.le_of_ble_eq_true rfl) (fun p e s m args below meth c A ls hx hb hr hml hlocks hnm hown hts hA hK hN hP hD hS hl => ?_)
  have hown : s.vm.findClass RX4 = some m.cls := hown
  have hl : lv_has ls 2 [(0, .ref (aP 0)), (1, .int x1)] := hl
  have hC : CallFix p m c cX4_ordersBefore 2 s args wsX4_ordersBefore RX4 := ⟨hx, hb, hml, hown, hts⟩
  have f9 : (Cond.fieldLink RX4 9 "IcePlant$Plant" "settings" "[I").before args s = true := hts _ (mC qf_X4_9)
  have f35 : (Cond.fieldLink RX4 35 "IcePlant$Plant" "boats" "LIcePlant$Boats;").before args s = true := hts _ (mC qf_X4_35)
  have f42 : (Cond.fieldLink RX4 42 "IcePlant$Plant" "orders" "LIcePlant$Orders;").before args s = true := hts _ (mC qf_X4_42)
  have iX4 : ∀ w ∈ wsX40, w ∈ wsX4_ordersBefore := fun w h => mC (iA_X4 w h)
  unfold f_X4_ordersBefore at hE
  refine lv_aload_n hx hb dX4_ordersBefore_0 rfl (lv_at hl 0 rfl) ?_
  refine va_get (D := D) (ci := 4) (v := .ref (aO 0)) (C := RX4) (T := TX4) (N := 13) hx hb hts iX4 hown hK hP 0 rfl rfl 4 (by decide) f42 (fun _ h9 => h9) rfl dX4_ordersBefore_1 ?_
  refine lv_iload_n hx hb dX4_ordersBefore_4 rfl (lv_at hl 1 rfl) ?_
  obtain ⟨r_1, hc_2, hE⟩ := bd1_el hE
  refine ki (X := ((W_P cy aP aS aB aO aR aA imP inP) ++ ((W_S cy aS imS) ++ (W_B cy aB imB)))) (Y := ((W_R cy aR imR) ++ (W_A cy aA imA inA))) (ws1 := (W_Pl cy aP aS aB aO aR aA imP inP imS imB imO imR imA inA)) (rV (X := ((W_P cy aP aS aB aO aR aA imP inP) ++ ((W_S cy aS imS) ++ (W_B cy aB imB)))) (Y := ((W_R cy aR imR) ++ (W_A cy aA imA inA))) (As := [.int x1]) (rest := []) hC (c_X3_isOpen l D cy aO x1 imO r_1 hc_2) (cwV 1 hts gX4_ordersBefore_X3_isOpen rfl rfl rfl cd_X3_isOpen ⟨Nat.le_of_ble_eq_true rfl, Nat.le_of_ble_eq_true rfl⟩) hK hN hP hD hS hA rfl 0 3 rfl rfl rfl hl.1 rfl (lv_room (Nat.le_of_ble_eq_true rfl)) dX4_ordersBefore_5 ⟨Nat.le_of_ble_eq_true rfl, Nat.le_of_ble_eq_true rfl⟩) hP hD hS hA rfl rfl rfl (fun H locs hP hD hS => ?_)
  refine lv_if_eq (tgt := 32) hx hb dX4_ordersBefore_8 (by decide) (fun c_3 => ?_) (fun c_3 => ?_)
  · replace hE := it_t hE c_3
    refine lv_iconst (v := (-1)) hx hb dX4_ordersBefore_32 (by decide) ?_
    have hE := Option.some.inj hE
    exact ei hx hb hr hlocks hK hP hD hS hE rfl dX4_ordersBefore_33
  · replace hE := it_f hE c_3
    refine lv_aload_n hx hb dX4_ordersBefore_11 rfl (lv_at hl 0 rfl) ?_
    refine va_get (D := D) (ci := 4) (v := .ref (aO 0)) (C := RX4) (T := TX4) (N := 13) hx hb hts iX4 hown hK hP 0 rfl rfl 4 (by decide) f42 (fun _ h9 => h9) rfl dX4_ordersBefore_12 ?_
    refine lv_iload_n hx hb dX4_ordersBefore_15 rfl (lv_at hl 1 rfl) ?_
    refine lv_aload_n hx hb dX4_ordersBefore_16 rfl (lv_at hl 0 rfl) ?_
    refine va_get (D := D) (ci := 4) (v := .ref (aP 1)) (C := RX4) (T := TX4) (N := 13) hx hb hts iX4 hown hK hP 0 rfl rfl 0 (by decide) f9 (fun _ h9 => h9) rfl dX4_ordersBefore_17 ?_
    refine lv_iconst (v := 2) hx hb dX4_ordersBefore_20 (by decide) ?_
    refine va_iald hx hb hK hP 1 0 rfl rfl (show ¬ ((2 : Int32) < 0 ∨ 8 ≤ (2 : Int32).toNatClampNeg) by decide) dX4_ordersBefore_21 ?_
    refine lv_aload_n hx hb dX4_ordersBefore_22 rfl (lv_at hl 0 rfl) ?_
    refine va_get (D := D) (ci := 4) (v := .ref (aB 0)) (C := RX4) (T := TX4) (N := 13) hx hb hts iX4 hown hK hP 0 rfl rfl 3 (by decide) f35 (fun _ h9 => h9) rfl dX4_ordersBefore_23 ?_
    obtain ⟨r_4, hc_5, hE⟩ := bd1_el hE
    refine ki (X := ((W_P cy aP aS aB aO aR aA imP inP) ++ (W_S cy aS imS))) (Y := ((W_R cy aR imR) ++ (W_A cy aA imA inA))) (ws1 := (W_Pl cy aP aS aB aO aR aA imP inP imS imB imO imR imA inA)) (rV (X := ((W_P cy aP aS aB aO aR aA imP inP) ++ (W_S cy aS imS))) (Y := ((W_R cy aR imR) ++ (W_A cy aA imA inA))) (As := [.int x1, .int (imP 0 (2 : Int32).toNatClampNeg), .ref (aB 0)]) (rest := []) hC (c_X3_openBefore l D cy aB aO x1 (imP 0 (2 : Int32).toNatClampNeg) imB imO r_4 hc_5) (cwV 3 hts gX4_ordersBefore_X3_openBefore rfl rfl rfl cd_X3_openBefore ⟨Nat.le_of_ble_eq_true rfl, Nat.le_of_ble_eq_true rfl⟩) hK hN hP hD hS hA rfl 4 3 rfl rfl rfl hl.1 rfl (lv_room (Nat.le_of_ble_eq_true rfl)) dX4_ordersBefore_26 ⟨Nat.le_of_ble_eq_true rfl, Nat.le_of_ble_eq_true rfl⟩) hP hD hS hA rfl rfl rfl (fun H locs hP hD hS => ?_)
    refine lv_goto (tgt := 33) hx hb dX4_ordersBefore_29 (by decide) ?_
    have hE := Option.some.inj hE
    exact ei hx hb hr hlocks hK hP hD hS hE rfl dX4_ordersBefore_33
abbrev rm_X4_totalOf : Room := { frames := 2, cells := 0, slots := 0, locals := 47 }
set_option maxHeartbeats 40000000 in
set_option maxRecDepth 100000 in
theorem c_X4_totalOf (l : Launch) (D : va_G) (cy : Nat → Nat) (aP aS aB aO aR aA : Nat → Nat) (x1 : Int32) (imP : Mem) (inP : MemL) (imS : Mem) (imB : Mem) (imO : Mem) (imR : Mem) (imA : Mem) (inA : MemL) (r' : Int64) (hE : f_X4_totalOf x1 imP inP imS imB imO imR imA inA = some r') : CL l yX4_totalOf wsX4_totalOf rm_X4_totalOf D cy [.ref (aP 0), .int x1] (W_Pl cy aP aS aB aO aR aA imP inP imS imB imO imR imA inA) 0 0 r' (W_Pl cy aP aS aB aO aR aA imP inP imS imB imO imR imA inA) := by
  refine CQ_of (cc := cX4_totalOf) (maxL := 2) (ret := (some .long)) (by decide) rfl (Nat.le_of_ble_eq_true rfl) (fun p e s m args below meth c A ls hx hb hr hml hlocks hnm hown hts hA hK hN hP hD hS hl => ?_)
  have hown : s.vm.findClass RX4 = some m.cls := hown
  have hl : lv_has ls 2 [(0, .ref (aP 0)), (1, .int x1)] := hl
  have hC : CallFix p m c cX4_totalOf 2 s args wsX4_totalOf RX4 := ⟨hx, hb, hml, hown, hts⟩
  have f28 : (Cond.fieldLink RX4 28 "IcePlant$Plant" "store" "LIcePlant$Store;").before args s = true := hts _ (mC qf_X4_28)
  have f35 : (Cond.fieldLink RX4 35 "IcePlant$Plant" "boats" "LIcePlant$Boats;").before args s = true := hts _ (mC qf_X4_35)
  have f42 : (Cond.fieldLink RX4 42 "IcePlant$Plant" "orders" "LIcePlant$Orders;").before args s = true := hts _ (mC qf_X4_42)
  have f49 : (Cond.fieldLink RX4 49 "IcePlant$Plant" "receipts" "LIcePlant$Receipts;").before args s = true := hts _ (mC qf_X4_49)
  have f56 : (Cond.fieldLink RX4 56 "IcePlant$Plant" "accounts" "LIcePlant$Accounts;").before args s = true := hts _ (mC qf_X4_56)
  have f76 : (Cond.fieldLink RX4 76 "IcePlant$Plant" "time" "I").before args s = true := hts _ (mC qf_X4_76)
  have f80 : (Cond.fieldLink RX4 80 "IcePlant$Plant" "madeMass" "I").before args s = true := hts _ (mC qf_X4_80)
  have f83 : (Cond.fieldLink RX4 83 "IcePlant$Plant" "deliveredMass" "I").before args s = true := hts _ (mC qf_X4_83)
  have f86 : (Cond.fieldLink RX4 86 "IcePlant$Plant" "missedBlocks" "I").before args s = true := hts _ (mC qf_X4_86)
  have f89 : (Cond.fieldLink RX4 89 "IcePlant$Plant" "prices" "J").before args s = true := hts _ (mC qf_X4_89)
  have f93 : (Cond.fieldLink RX4 93 "IcePlant$Plant" "payments" "J").before args s = true := hts _ (mC qf_X4_93)
  have f195 : (Cond.fieldLink RX4 195 "IcePlant$Store" "silos" "I").before args s = true := hts _ (mC qf_X4_195)
  have f198 : (Cond.fieldLink RX4 198 "IcePlant$Boats" "count" "I").before args s = true := hts _ (mC qf_X4_198)
  have f201 : (Cond.fieldLink RX4 201 "IcePlant$Orders" "count" "I").before args s = true := hts _ (mC qf_X4_201)
  have f202 : (Cond.fieldLink RX4 202 "IcePlant$Orders" "openCount" "I").before args s = true := hts _ (mC qf_X4_202)
  have f208 : (Cond.fieldLink RX4 208 "IcePlant$Accounts" "count" "I").before args s = true := hts _ (mC qf_X4_208)
  have iX0 : ∀ w ∈ wsX00, w ∈ wsX4_totalOf := fun w h => mC (iA_X0 w h)
  have iX1 : ∀ w ∈ wsX10, w ∈ wsX4_totalOf := fun w h => mC (iA_X1 w h)
  have iX3 : ∀ w ∈ wsX30, w ∈ wsX4_totalOf := fun w h => mC (iA_X3 w h)
  have iX4 : ∀ w ∈ wsX40, w ∈ wsX4_totalOf := fun w h => mC (iA_X4 w h)
  have iX6 : ∀ w ∈ wsX60, w ∈ wsX4_totalOf := fun w h => mC (iA_X6 w h)
  unfold f_X4_totalOf at hE
  refine lv_iload_n hx hb dX4_totalOf_0 rfl (lv_at hl 1 rfl) ?_
  by_cases c_1_0 : x1 = 0
  · replace hE := it_t hE c_1_0
    refine lv_tableIn (tgt := 72) hx hb dX4_totalOf_1 (by rw [c_1_0]; decide) (by rw [c_1_0]; decide) (off := 71) (by rw [c_1_0]; decide) (by decide) ?_
    refine lv_aload_n hx hb dX4_totalOf_72 rfl (lv_at hl 0 rfl) ?_
    refine va_get (D := D) (ci := 4) (v := .int (imP 7 0)) (C := RX4) (T := TX4) (N := 13) hx hb hts iX4 hown hK hP 0 rfl rfl 7 (by decide) f76 (fun _ h9 => h9) rfl dX4_totalOf_73 ?_
    refine lv_i2l hx hb dX4_totalOf_76 rfl ?_
    have hE := Option.some.inj hE
    exact el hx hb hr hlocks hK hP hD hS hE rfl dX4_totalOf_77
  · replace hE := it_f hE c_1_0
    by_cases c_1_1 : x1 = 1
    · replace hE := it_t hE c_1_1
      refine lv_tableIn (tgt := 78) hx hb dX4_totalOf_1 (by rw [c_1_1]; decide) (by rw [c_1_1]; decide) (off := 77) (by rw [c_1_1]; decide) (by decide) ?_
      refine lv_aload_n hx hb dX4_totalOf_78 rfl (lv_at hl 0 rfl) ?_
      refine va_get (D := D) (ci := 4) (v := .int (imP 8 0)) (C := RX4) (T := TX4) (N := 13) hx hb hts iX4 hown hK hP 0 rfl rfl 8 (by decide) f80 (fun _ h9 => h9) rfl dX4_totalOf_79 ?_
      refine lv_i2l hx hb dX4_totalOf_82 rfl ?_
      have hE := Option.some.inj hE
      exact el hx hb hr hlocks hK hP hD hS hE rfl dX4_totalOf_83
    · replace hE := it_f hE c_1_1
      by_cases c_1_2 : x1 = 2
      · replace hE := it_t hE c_1_2
        refine lv_tableIn (tgt := 84) hx hb dX4_totalOf_1 (by rw [c_1_2]; decide) (by rw [c_1_2]; decide) (off := 83) (by rw [c_1_2]; decide) (by decide) ?_
        refine lv_aload_n hx hb dX4_totalOf_84 rfl (lv_at hl 0 rfl) ?_
        refine va_get (D := D) (ci := 4) (v := .int (imP 9 0)) (C := RX4) (T := TX4) (N := 13) hx hb hts iX4 hown hK hP 0 rfl rfl 9 (by decide) f83 (fun _ h9 => h9) rfl dX4_totalOf_85 ?_
        refine lv_i2l hx hb dX4_totalOf_88 rfl ?_
        have hE := Option.some.inj hE
        exact el hx hb hr hlocks hK hP hD hS hE rfl dX4_totalOf_89
      · replace hE := it_f hE c_1_2
        by_cases c_1_3 : x1 = 3
        · replace hE := it_t hE c_1_3
          refine lv_tableIn (tgt := 90) hx hb dX4_totalOf_1 (by rw [c_1_3]; decide) (by rw [c_1_3]; decide) (off := 89) (by rw [c_1_3]; decide) (by decide) ?_
          refine lv_aload_n hx hb dX4_totalOf_90 rfl (lv_at hl 0 rfl) ?_
          refine va_get (D := D) (ci := 4) (v := .ref (aS 0)) (C := RX4) (T := TX4) (N := 13) hx hb hts iX4 hown hK hP 0 rfl rfl 2 (by decide) f28 (fun _ h9 => h9) rfl dX4_totalOf_91 ?_
          obtain ⟨r_8, hc_9, hE⟩ := bd1_el hE
          refine ki (X := (W_P cy aP aS aB aO aR aA imP inP)) (Y := ((W_B cy aB imB) ++ ((W_O cy aO imO) ++ ((W_R cy aR imR) ++ (W_A cy aA imA inA))))) (ws1 := (W_Pl cy aP aS aB aO aR aA imP inP imS imB imO imR imA inA)) (rV (X := (W_P cy aP aS aB aO aR aA imP inP)) (Y := ((W_B cy aB imB) ++ ((W_O cy aO imO) ++ ((W_R cy aR imR) ++ (W_A cy aA imA inA))))) (As := []) (rest := []) hC (c_X6_meltedMass l D cy aS imS r_8 hc_9) (cwV 0 hts gX4_totalOf_X6_meltedMass rfl rfl rfl cd_X6_meltedMass ⟨Nat.le_of_ble_eq_true rfl, Nat.le_of_ble_eq_true rfl⟩) hK hN hP hD hS hA rfl 0 6 rfl rfl rfl hl.1 rfl (lv_room (Nat.le_of_ble_eq_true rfl)) dX4_totalOf_94 ⟨Nat.le_of_ble_eq_true rfl, Nat.le_of_ble_eq_true rfl⟩) hP hD hS hA rfl rfl rfl (fun H locs hP hD hS => ?_)
          refine lv_i2l hx hb dX4_totalOf_97 rfl ?_
          have hE := Option.some.inj hE
          exact el hx hb hr hlocks hK hP hD hS hE rfl dX4_totalOf_98
        · replace hE := it_f hE c_1_3
          by_cases c_1_4 : x1 = 4
          · replace hE := it_t hE c_1_4
            refine lv_tableIn (tgt := 99) hx hb dX4_totalOf_1 (by rw [c_1_4]; decide) (by rw [c_1_4]; decide) (off := 98) (by rw [c_1_4]; decide) (by decide) ?_
            refine lv_aload_n hx hb dX4_totalOf_99 rfl (lv_at hl 0 rfl) ?_
            refine va_get (D := D) (ci := 4) (v := .ref (aS 0)) (C := RX4) (T := TX4) (N := 13) hx hb hts iX4 hown hK hP 0 rfl rfl 2 (by decide) f28 (fun _ h9 => h9) rfl dX4_totalOf_100 ?_
            obtain ⟨r_6, hc_7, hE⟩ := bd1_el hE
            refine ki (X := (W_P cy aP aS aB aO aR aA imP inP)) (Y := ((W_B cy aB imB) ++ ((W_O cy aO imO) ++ ((W_R cy aR imR) ++ (W_A cy aA imA inA))))) (ws1 := (W_Pl cy aP aS aB aO aR aA imP inP imS imB imO imR imA inA)) (rV (X := (W_P cy aP aS aB aO aR aA imP inP)) (Y := ((W_B cy aB imB) ++ ((W_O cy aO imO) ++ ((W_R cy aR imR) ++ (W_A cy aA imA inA))))) (As := []) (rest := []) hC (c_X6_mass l D cy aS imS r_6 hc_7) (cwV 0 hts gX4_totalOf_X6_mass rfl rfl rfl cd_X6_mass ⟨Nat.le_of_ble_eq_true rfl, Nat.le_of_ble_eq_true rfl⟩) hK hN hP hD hS hA rfl 0 6 rfl rfl rfl hl.1 rfl (lv_room (Nat.le_of_ble_eq_true rfl)) dX4_totalOf_103 ⟨Nat.le_of_ble_eq_true rfl, Nat.le_of_ble_eq_true rfl⟩) hP hD hS hA rfl rfl rfl (fun H locs hP hD hS => ?_)
            refine lv_i2l hx hb dX4_totalOf_106 rfl ?_
            have hE := Option.some.inj hE
            exact el hx hb hr hlocks hK hP hD hS hE rfl dX4_totalOf_107
          · replace hE := it_f hE c_1_4
            by_cases c_1_5 : x1 = 5
            · replace hE := it_t hE c_1_5
              refine lv_tableIn (tgt := 108) hx hb dX4_totalOf_1 (by rw [c_1_5]; decide) (by rw [c_1_5]; decide) (off := 107) (by rw [c_1_5]; decide) (by decide) ?_
              refine lv_aload_n hx hb dX4_totalOf_108 rfl (lv_at hl 0 rfl) ?_
              refine va_get (D := D) (ci := 4) (v := .int (imP 10 0)) (C := RX4) (T := TX4) (N := 13) hx hb hts iX4 hown hK hP 0 rfl rfl 10 (by decide) f86 (fun _ h9 => h9) rfl dX4_totalOf_109 ?_
              refine lv_i2l hx hb dX4_totalOf_112 rfl ?_
              have hE := Option.some.inj hE
              exact el hx hb hr hlocks hK hP hD hS hE rfl dX4_totalOf_113
            · replace hE := it_f hE c_1_5
              by_cases c_1_6 : x1 = 6
              · replace hE := it_t hE c_1_6
                refine lv_tableIn (tgt := 114) hx hb dX4_totalOf_1 (by rw [c_1_6]; decide) (by rw [c_1_6]; decide) (off := 113) (by rw [c_1_6]; decide) (by decide) ?_
                refine lv_aload_n hx hb dX4_totalOf_114 rfl (lv_at hl 0 rfl) ?_
                refine va_get (D := D) (ci := 4) (v := .ref (aS 0)) (C := RX4) (T := TX4) (N := 13) hx hb hts iX4 hown hK hP 0 rfl rfl 2 (by decide) f28 (fun _ h9 => h9) rfl dX4_totalOf_115 ?_
                obtain ⟨r_4, hc_5, hE⟩ := bd1_el hE
                refine ki (X := (W_P cy aP aS aB aO aR aA imP inP)) (Y := ((W_B cy aB imB) ++ ((W_O cy aO imO) ++ ((W_R cy aR imR) ++ (W_A cy aA imA inA))))) (ws1 := (W_Pl cy aP aS aB aO aR aA imP inP imS imB imO imR imA inA)) (rV (X := (W_P cy aP aS aB aO aR aA imP inP)) (Y := ((W_B cy aB imB) ++ ((W_O cy aO imO) ++ ((W_R cy aR imR) ++ (W_A cy aA imA inA))))) (As := []) (rest := []) hC (c_X6_blocks l D cy aS imS r_4 hc_5) (cwV 0 hts gX4_totalOf_X6_blocks rfl rfl rfl cd_X6_blocks ⟨Nat.le_of_ble_eq_true rfl, Nat.le_of_ble_eq_true rfl⟩) hK hN hP hD hS hA rfl 0 6 rfl rfl rfl hl.1 rfl (lv_room (Nat.le_of_ble_eq_true rfl)) dX4_totalOf_118 ⟨Nat.le_of_ble_eq_true rfl, Nat.le_of_ble_eq_true rfl⟩) hP hD hS hA rfl rfl rfl (fun H locs hP hD hS => ?_)
                refine lv_i2l hx hb dX4_totalOf_121 rfl ?_
                have hE := Option.some.inj hE
                exact el hx hb hr hlocks hK hP hD hS hE rfl dX4_totalOf_122
              · replace hE := it_f hE c_1_6
                by_cases c_1_7 : x1 = 7
                · replace hE := it_t hE c_1_7
                  refine lv_tableIn (tgt := 123) hx hb dX4_totalOf_1 (by rw [c_1_7]; decide) (by rw [c_1_7]; decide) (off := 122) (by rw [c_1_7]; decide) (by decide) ?_
                  refine lv_aload_n hx hb dX4_totalOf_123 rfl (lv_at hl 0 rfl) ?_
                  refine va_get (D := D) (ci := 4) (v := .ref (aS 0)) (C := RX4) (T := TX4) (N := 13) hx hb hts iX4 hown hK hP 0 rfl rfl 2 (by decide) f28 (fun _ h9 => h9) rfl dX4_totalOf_124 ?_
                  refine va_get (D := D) (ci := 6) (v := .int (imS 0 0)) (C := RX6) (T := TX6) (N := 10) hx hb hts iX6 hown hK hP 3 rfl rfl 0 (by decide) f195 (fun _ h9 => h9) rfl dX4_totalOf_127 ?_
                  refine lv_i2l hx hb dX4_totalOf_130 rfl ?_
                  have hE := Option.some.inj hE
                  exact el hx hb hr hlocks hK hP hD hS hE rfl dX4_totalOf_131
                · replace hE := it_f hE c_1_7
                  by_cases c_1_8 : x1 = 8
                  · replace hE := it_t hE c_1_8
                    refine lv_tableIn (tgt := 132) hx hb dX4_totalOf_1 (by rw [c_1_8]; decide) (by rw [c_1_8]; decide) (off := 131) (by rw [c_1_8]; decide) (by decide) ?_
                    refine lv_aload_n hx hb dX4_totalOf_132 rfl (lv_at hl 0 rfl) ?_
                    refine va_get (D := D) (ci := 4) (v := .ref (aB 0)) (C := RX4) (T := TX4) (N := 13) hx hb hts iX4 hown hK hP 0 rfl rfl 3 (by decide) f35 (fun _ h9 => h9) rfl dX4_totalOf_133 ?_
                    refine va_get (D := D) (ci := 1) (v := .int (imB 0 0)) (C := RX1) (T := TX1) (N := 4) hx hb hts iX1 hown hK hP 12 rfl rfl 0 (by decide) f198 (fun _ h9 => h9) rfl dX4_totalOf_136 ?_
                    refine lv_i2l hx hb dX4_totalOf_139 rfl ?_
                    have hE := Option.some.inj hE
                    exact el hx hb hr hlocks hK hP hD hS hE rfl dX4_totalOf_140
                  · replace hE := it_f hE c_1_8
                    by_cases c_1_9 : x1 = 9
                    · replace hE := it_t hE c_1_9
                      refine lv_tableIn (tgt := 141) hx hb dX4_totalOf_1 (by rw [c_1_9]; decide) (by rw [c_1_9]; decide) (off := 140) (by rw [c_1_9]; decide) (by decide) ?_
                      refine lv_aload_n hx hb dX4_totalOf_141 rfl (lv_at hl 0 rfl) ?_
                      refine va_get (D := D) (ci := 4) (v := .ref (aO 0)) (C := RX4) (T := TX4) (N := 13) hx hb hts iX4 hown hK hP 0 rfl rfl 4 (by decide) f42 (fun _ h9 => h9) rfl dX4_totalOf_142 ?_
                      refine va_get (D := D) (ci := 3) (v := .int (imO 0 0)) (C := RX3) (T := TX3) (N := 10) hx hb hts iX3 hown hK hP 16 rfl rfl 0 (by decide) f201 (fun _ h9 => h9) rfl dX4_totalOf_145 ?_
                      refine lv_i2l hx hb dX4_totalOf_148 rfl ?_
                      have hE := Option.some.inj hE
                      exact el hx hb hr hlocks hK hP hD hS hE rfl dX4_totalOf_149
                    · replace hE := it_f hE c_1_9
                      by_cases c_1_10 : x1 = 10
                      · replace hE := it_t hE c_1_10
                        refine lv_tableIn (tgt := 150) hx hb dX4_totalOf_1 (by rw [c_1_10]; decide) (by rw [c_1_10]; decide) (off := 149) (by rw [c_1_10]; decide) (by decide) ?_
                        refine lv_aload_n hx hb dX4_totalOf_150 rfl (lv_at hl 0 rfl) ?_
                        refine va_get (D := D) (ci := 4) (v := .ref (aO 0)) (C := RX4) (T := TX4) (N := 13) hx hb hts iX4 hown hK hP 0 rfl rfl 4 (by decide) f42 (fun _ h9 => h9) rfl dX4_totalOf_151 ?_
                        refine va_get (D := D) (ci := 3) (v := .int (imO 1 0)) (C := RX3) (T := TX3) (N := 10) hx hb hts iX3 hown hK hP 16 rfl rfl 1 (by decide) f202 (fun _ h9 => h9) rfl dX4_totalOf_154 ?_
                        refine lv_i2l hx hb dX4_totalOf_157 rfl ?_
                        have hE := Option.some.inj hE
                        exact el hx hb hr hlocks hK hP hD hS hE rfl dX4_totalOf_158
                      · replace hE := it_f hE c_1_10
                        by_cases c_1_11 : x1 = 11
                        · replace hE := it_t hE c_1_11
                          refine lv_tableIn (tgt := 159) hx hb dX4_totalOf_1 (by rw [c_1_11]; decide) (by rw [c_1_11]; decide) (off := 158) (by rw [c_1_11]; decide) (by decide) ?_
                          refine lv_aload_n hx hb dX4_totalOf_159 rfl (lv_at hl 0 rfl) ?_
                          refine va_get (D := D) (ci := 4) (v := .long (inP 11 0)) (C := RX4) (T := TX4) (N := 13) hx hb hts iX4 hown hK hP 0 rfl rfl 11 (by decide) f89 (fun _ h9 => h9) rfl dX4_totalOf_160 ?_
                          have hE := Option.some.inj hE
                          exact el hx hb hr hlocks hK hP hD hS hE rfl dX4_totalOf_163
                        · replace hE := it_f hE c_1_11
                          by_cases c_1_12 : x1 = 12
                          · replace hE := it_t hE c_1_12
                            refine lv_tableIn (tgt := 164) hx hb dX4_totalOf_1 (by rw [c_1_12]; decide) (by rw [c_1_12]; decide) (off := 163) (by rw [c_1_12]; decide) (by decide) ?_
                            refine lv_aload_n hx hb dX4_totalOf_164 rfl (lv_at hl 0 rfl) ?_
                            refine va_get (D := D) (ci := 4) (v := .long (inP 12 0)) (C := RX4) (T := TX4) (N := 13) hx hb hts iX4 hown hK hP 0 rfl rfl 12 (by decide) f93 (fun _ h9 => h9) rfl dX4_totalOf_165 ?_
                            have hE := Option.some.inj hE
                            exact el hx hb hr hlocks hK hP hD hS hE rfl dX4_totalOf_168
                          · replace hE := it_f hE c_1_12
                            by_cases c_1_13 : x1 = 13
                            · replace hE := it_t hE c_1_13
                              refine lv_tableIn (tgt := 169) hx hb dX4_totalOf_1 (by rw [c_1_13]; decide) (by rw [c_1_13]; decide) (off := 168) (by rw [c_1_13]; decide) (by decide) ?_
                              refine lv_aload_n hx hb dX4_totalOf_169 rfl (lv_at hl 0 rfl) ?_
                              refine va_get (D := D) (ci := 4) (v := .ref (aR 0)) (C := RX4) (T := TX4) (N := 13) hx hb hts iX4 hown hK hP 0 rfl rfl 5 (by decide) f49 (fun _ h9 => h9) rfl dX4_totalOf_170 ?_
                              obtain ⟨r_2, hc_3, hE⟩ := bd1_el hE
                              refine ki (X := ((W_P cy aP aS aB aO aR aA imP inP) ++ ((W_S cy aS imS) ++ ((W_B cy aB imB) ++ (W_O cy aO imO))))) (Y := (W_A cy aA imA inA)) (ws1 := (W_Pl cy aP aS aB aO aR aA imP inP imS imB imO imR imA inA)) (rV (X := ((W_P cy aP aS aB aO aR aA imP inP) ++ ((W_S cy aS imS) ++ ((W_B cy aB imB) ++ (W_O cy aO imO))))) (Y := (W_A cy aA imA inA)) (As := []) (rest := []) hC (c_X5_kept l D cy aR imR r_2 hc_3) (cwV 0 hts gX4_totalOf_X5_kept rfl rfl rfl cd_X5_kept ⟨Nat.le_of_ble_eq_true rfl, Nat.le_of_ble_eq_true rfl⟩) hK hN hP hD hS hA rfl 0 5 rfl rfl rfl hl.1 rfl (lv_room (Nat.le_of_ble_eq_true rfl)) dX4_totalOf_173 ⟨Nat.le_of_ble_eq_true rfl, Nat.le_of_ble_eq_true rfl⟩) hP hD hS hA rfl rfl rfl (fun H locs hP hD hS => ?_)
                              refine lv_i2l hx hb dX4_totalOf_176 rfl ?_
                              have hE := Option.some.inj hE
                              exact el hx hb hr hlocks hK hP hD hS hE rfl dX4_totalOf_177
                            · replace hE := it_f hE c_1_13
                              refine lv_tableOut (tgt := 178) hx hb dX4_totalOf_1 (sw_out (lo := 0) (hi := 13) (fun z h1 h2 => ?_)) (by decide) ?_
                              · rcases (show z = 0 ∨ z = 1 ∨ z = 2 ∨ z = 3 ∨ z = 4 ∨ z = 5 ∨ z = 6 ∨ z = 7 ∨ z = 8 ∨ z = 9 ∨ z = 10 ∨ z = 11 ∨ z = 12 ∨ z = 13 by omega) with rfl | rfl | rfl | rfl | rfl | rfl | rfl | rfl | rfl | rfl | rfl | rfl | rfl | rfl
                                · exact fun q9 => c_1_0 (q9.trans (by decide))
                                · exact fun q9 => c_1_1 (q9.trans (by decide))
                                · exact fun q9 => c_1_2 (q9.trans (by decide))
                                · exact fun q9 => c_1_3 (q9.trans (by decide))
                                · exact fun q9 => c_1_4 (q9.trans (by decide))
                                · exact fun q9 => c_1_5 (q9.trans (by decide))
                                · exact fun q9 => c_1_6 (q9.trans (by decide))
                                · exact fun q9 => c_1_7 (q9.trans (by decide))
                                · exact fun q9 => c_1_8 (q9.trans (by decide))
                                · exact fun q9 => c_1_9 (q9.trans (by decide))
                                · exact fun q9 => c_1_10 (q9.trans (by decide))
                                · exact fun q9 => c_1_11 (q9.trans (by decide))
                                · exact fun q9 => c_1_12 (q9.trans (by decide))
                                · exact fun q9 => c_1_13 (q9.trans (by decide))
                              · refine lv_aload_n hx hb dX4_totalOf_178 rfl (lv_at hl 0 rfl) ?_
                                refine va_get (D := D) (ci := 4) (v := .ref (aA 0)) (C := RX4) (T := TX4) (N := 13) hx hb hts iX4 hown hK hP 0 rfl rfl 6 (by decide) f56 (fun _ h9 => h9) rfl dX4_totalOf_179 ?_
                                refine va_get (D := D) (ci := 0) (v := .int (imA 0 0)) (C := RX0) (T := TX0) (N := 5) hx hb hts iX0 hown hK hP 31 rfl rfl 0 (by decide) f208 (fun _ h9 => h9) rfl dX4_totalOf_182 ?_
                                refine lv_i2l hx hb dX4_totalOf_185 rfl ?_
                                have hE := Option.some.inj hE
                                exact el hx hb hr hlocks hK hP hD hS hE rfl dX4_totalOf_186
