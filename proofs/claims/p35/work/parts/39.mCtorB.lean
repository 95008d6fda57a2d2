set_option maxHeartbeats 40000000 in
set_option maxRecDepth 100000 in
theorem c_X8_copyRow_st (l : Launch) (D : va_G) (cy : Nat → Nat) (b1 : Nat) (g1 : Nat → Int32) : CV l yX8_copyRow wsX8_copyRow rm_copy D cy [.ref (cy 10), .ref b1] [(b1, .inl (cy 0, 8, .inl g1))] 0 0 [(b1, .inl (cy 0, 8, .inl (va_cpy (stV 0) g1 0 0 8)))] := by
  refine CQ_of (cc := cX8_copyRow) (maxL := 2) (ret := none) (by decide) rfl (Nat.le_of_ble_eq_true rfl) (fun p e s m args below meth c A ls hx hb hr hml hlocks hnm hown hts hA hK hN hP hD hS hl => ?_)
  have hown : s.vm.findClass RX8 = some m.cls := hown
  have hl : lv_has ls 2 [(0, .ref (cy 10)), (1, .ref b1)] := hl
  have hm2 : c.maxLocals = ls.size := hml.trans hl.1.symm
  have hT := (hN.2.2.1 0 (by decide)).2
  refine lv_aload_n hx hb dX8_copyRow_0 rfl (lv_at hl 0 rfl) ?_
  refine lv_iconst (v := 0) hx hb dX8_copyRow_1 (by decide) ?_
  refine lv_aload_n hx hb dX8_copyRow_2 rfl (lv_at hl 1 rfl) ?_
  refine lv_iconst (v := 0) hx hb dX8_copyRow_3 (by decide) ?_
  refine lv_aload_n hx hb dX8_copyRow_4 rfl (lv_at hl 0 rfl) ?_
  refine va_tlen hx hb hT hS (v := Int32.ofNat 8) rfl dX8_copyRow_5 ?_
  refine lv_aload_n hx hb dX8_copyRow_6 rfl (lv_at hl 1 rfl) ?_
  refine va_alen hx hb hK hP 0 0 rfl rfl (v := Int32.ofNat 8) rfl dX8_copyRow_7 ?_
  refine va_mmin hx hb hm2 hown (hts _ (mC qm_X8_293)) (hts _ (mC qs_Lib_Math_min_name)) (hts _ (mC qn_J9)) (hts _ (mC qc_Lib_Math_min_name)) (Nat.le_of_ble_eq_true rfl) (Nat.le_of_ble_eq_true rfl) (Nat.le_of_ble_eq_true rfl) (Nat.le_of_ble_eq_true rfl) dX8_copyRow_8 ?_
  refine s_nm (y := nI 8) (by split <;> rfl) ?_
  refine copyT (z := 8) (f := stV 0) (g := g1) hx hb hm2 hown (hts _ (mC qm_X8_298)) (hts _ (mC qv_arraycopyName)) (hts _ (mC qs_arraycopyName)) (hts _ (mC qn_J10)) hK hS (by decide) hT hP hD (Nat.le_of_ble_eq_true rfl) (Nat.le_of_ble_eq_true rfl) dX8_copyRow_11 (fun H locs hP hD hS => ?_)
  exact ev hx hb hr hlocks hK hP hD hS rfl dX8_copyRow_14
/-- the first settings, and j of the first temperatures -/
def t4 (j : Nat) : Nat → Int32 := fun i => if i < j then 10 else 0
theorem t4_0 : t4 0 = fun _ => 0 := by
  funext i
  unfold t4
  rw [if_neg (Nat.not_lt_zero i)]
theorem t4_s {j : Nat} : upd (t4 j) j 10 = t4 (j + 1) := by
  funext i
  unfold upd t4
  by_cases h : i = j
  · rw [if_pos h, if_pos (by omega)]
  · rw [if_neg h]
    by_cases h2 : i < j
    · rw [if_pos h2, if_pos (by omega)]
    · rw [if_neg h2, if_neg (by omega)]
abbrev mP0 : Mem := fun k => match k with | 0 => va_cpy (stV 0) (fun _ => 0) 0 0 8 | 1 => t4 24 | _ => fun _ => 0
/-- a new plant -/
abbrev st0 : PSt := (mP0, zN9, zM9, zM9, zM9, zM9, zM9, zN9)
abbrev rm_X4_init : Room := { frames := 2, cells := 35, slots := 1951, locals := 39 }
set_option maxHeartbeats 40000000 in
set_option maxRecDepth 100000 in
theorem c_X4_init (l : Launch) (D : va_G) (cy : Nat → Nat) (h : Nat) : CQ l yX4_init wsX4_init rm_X4_init D cy [.ref h] [(h, .inr (4, [.null, .null, .null, .null, .null, .null, .null, .int 0, .int 0, .int 0, .int 0, .long 0, .long 0]))] 35 1951 (QN D cy (fun u : Nat → Nat → Nat => u 0 0 = h) (fun u => W_Pt cy u st0)) := by
  refine CQ_of (cc := cX4_init) (maxL := 2) (ret := none) (by decide) rfl (Nat.le_of_ble_eq_true rfl) (fun p e s m args below meth c A ls hx hb hr hml hlocks hnm hown hts hA hK hN hP hD hS hl => ?_)
  have hown : s.vm.findClass RX4 = some m.cls := hown
  have hin : meth.name = "<init>" := hnm
  have hl : lv_has ls 2 [(0, .ref h)] := hl
  have hC : CallFix p m c cX4_init 2 s args wsX4_init RX4 := ⟨hx, hb, hml, hown, hts⟩
  refine lv_aload_n hx hb dX4_init_0 rfl (lv_at hl 0 rfl) ?_
  refine W.objInit hx hb hown (hts _ (mC qm_X4_3)) (hts _ (mC qi_objectInit)) (hts _ (mC qc_objectInit)) rfl (hl.1.trans hml.symm) rfl dX4_init_1 (Nat.le_of_ble_eq_true rfl) (Nat.le_of_ble_eq_true rfl) ?_
  refine W.eq (g2 := F0 m 4 ls []) rfl ?_
  have iX4 : ∀ w ∈ wsX40, w ∈ wsX4_init := fun w h => mC (iA_X4 w h)
  refine lv_aload_n hx hb dX4_init_4 rfl (lv_at hl 0 rfl) ?_
  refine lv_bipush (v := 8) hx hb dX4_init_5 (by decide) ?_
  refine n_i (N' := 8) hx hb (hts _ (mC qa_int)) hK hP hD hS hA (by decide) (by decide) (by decide) (Nat.le_of_ble_eq_true rfl) (Nat.le_of_ble_eq_true rfl) dX4_init_7 (fun q7 H hP hD hS => ?_)
  have hP : va_P D vwCl [(h, .inr (4, [.null, .null, .null, .null, .null, .null, .null, .int 0, .int 0, .int 0, .int 0, .long 0, .long 0])), (q7, .inl (cy 0, 8, .inl (fun _ => 0)))] H := hP
  have hD : va_D A [(h, .inr (4, [.null, .null, .null, .null, .null, .null, .null, .int 0, .int 0, .int 0, .int 0, .long 0, .long 0])), (q7, .inl (cy 0, 8, .inl (fun _ => 0)))] := hD
  refine va_putF (D := D) (ci := 4) (v := .ref q7) (ty := (.array .int)) (C := RX4) (T := TX4) (N := 13) hx hb hts iX4 tyX4 tyX4_ok nmX4 hown hK hP hD hS 0 rfl rfl 0 (by decide) (hts _ (mC qf_X4_9)) (fun _ h9 => h9) rfl hin rfl (by decide +kernel) rfl rfl (Nat.le_of_ble_eq_true rfl) dX4_init_9 (fun H locs hP hD hS => ?_)
  have hP : va_P D vwCl [(h, .inr (4, [.ref q7, .null, .null, .null, .null, .null, .null, .int 0, .int 0, .int 0, .int 0, .long 0, .long 0])), (q7, .inl (cy 0, 8, .inl (fun _ => 0)))] H := hP
  have hD : va_D A [(h, .inr (4, [.ref q7, .null, .null, .null, .null, .null, .null, .int 0, .int 0, .int 0, .int 0, .long 0, .long 0])), (q7, .inl (cy 0, 8, .inl (fun _ => 0)))] := hD
  refine va_getsN hx hb (hN.2.2.1 0 (by decide)).1 hS hown (va_Nw.use (A := args) rfl hN.2.1.1) (fun _ h9 => h9) dX4_init_12 ?_
  refine lv_aload_n hx hb dX4_init_15 rfl (lv_at hl 0 rfl) ?_
  refine va_get (D := D) (ci := 4) (v := .ref q7) (C := RX4) (T := TX4) (N := 13) hx hb hts iX4 hown hK hP 0 rfl rfl 0 (by decide) (hts _ (mC qf_X4_9)) (fun _ h9 => h9) rfl dX4_init_16 ?_
  refine kv (X := [(h, .inr (4, [.ref q7, .null, .null, .null, .null, .null, .null, .int 0, .int 0, .int 0, .int 0, .long 0, .long 0]))]) (Y := []) (ws1 := [(h, .inr (4, [.ref q7, .null, .null, .null, .null, .null, .null, .int 0, .int 0, .int 0, .int 0, .long 0, .long 0])), (q7, .inl (cy 0, 8, .inl (va_cpy (stV 0) (fun _ => 0) 0 0 8)))]) (rSN (X := [(h, .inr (4, [.ref q7, .null, .null, .null, .null, .null, .null, .int 0, .int 0, .int 0, .int 0, .long 0, .long 0]))]) (Y := []) (As := [.ref (cy 10), .ref q7]) (rest := []) hC (c_X8_copyRow_st l D cy q7 (fun _ => 0)) (va_cnB 2 hts gX4_init_X8_copyRow_n18 rfl rfl rfl (hN.1 6 _ rfl) (hts _ (mC qn_X8)) cd_X8_copyRow.2 ⟨Nat.le_of_ble_eq_true rfl, Nat.le_of_ble_eq_true rfl⟩) (hts _ (mC qs_X8_copyRow)) hK hN hP hD hS hA rfl rfl hl.1 rfl (lv_room (Nat.le_of_ble_eq_true rfl)) dX4_init_19 ⟨Nat.le_of_ble_eq_true rfl, Nat.le_of_ble_eq_true rfl⟩) hP hD hS hA rfl rfl rfl (fun H locs hP hD hS => ?_)
  refine lv_aload_n hx hb dX4_init_22 rfl (lv_at hl 0 rfl) ?_
  refine lv_bipush (v := 24) hx hb dX4_init_23 (by decide) ?_
  refine n_i (N' := 24) hx hb (hts _ (mC qa_int)) hK hP hD hS hA (by decide) (by decide) (by decide) (Nat.le_of_ble_eq_true rfl) (Nat.le_of_ble_eq_true rfl) dX4_init_25 (fun q25 H hP hD hS => ?_)
  have hP : va_P D vwCl [(h, .inr (4, [.ref q7, .null, .null, .null, .null, .null, .null, .int 0, .int 0, .int 0, .int 0, .long 0, .long 0])), (q7, .inl (cy 0, 8, .inl (va_cpy (stV 0) (fun _ => 0) 0 0 8))), (q25, .inl (cy 0, 24, .inl (fun _ => 0)))] H := hP
  have hD : va_D A [(h, .inr (4, [.ref q7, .null, .null, .null, .null, .null, .null, .int 0, .int 0, .int 0, .int 0, .long 0, .long 0])), (q7, .inl (cy 0, 8, .inl (va_cpy (stV 0) (fun _ => 0) 0 0 8))), (q25, .inl (cy 0, 24, .inl (fun _ => 0)))] := hD
  refine va_putF (D := D) (ci := 4) (v := .ref q25) (ty := (.array .int)) (C := RX4) (T := TX4) (N := 13) hx hb hts iX4 tyX4 tyX4_ok nmX4 hown hK hP hD hS 0 rfl rfl 1 (by decide) (hts _ (mC qf_X4_22)) (fun _ h9 => h9) rfl hin rfl (by decide +kernel) rfl rfl (Nat.le_of_ble_eq_true rfl) dX4_init_27 (fun H locs hP hD hS => ?_)
  have hP : va_P D vwCl [(h, .inr (4, [.ref q7, .ref q25, .null, .null, .null, .null, .null, .int 0, .int 0, .int 0, .int 0, .long 0, .long 0])), (q7, .inl (cy 0, 8, .inl (va_cpy (stV 0) (fun _ => 0) 0 0 8))), (q25, .inl (cy 0, 24, .inl (fun _ => 0)))] H := hP
  have hD : va_D A [(h, .inr (4, [.ref q7, .ref q25, .null, .null, .null, .null, .null, .int 0, .int 0, .int 0, .int 0, .long 0, .long 0])), (q7, .inl (cy 0, 8, .inl (va_cpy (stV 0) (fun _ => 0) 0 0 8))), (q25, .inl (cy 0, 24, .inl (fun _ => 0)))] := hD
  refine W.widen (k := 2) (n := 32) (Nat.le_of_ble_eq_true rfl) (Nat.le_of_ble_eq_true rfl) ?_
  have after : ∀ (H : Heap) (locs : List Loc) (ls : Array Slot), va_P D vwCl [(h, .inr (4, [.ref q7, .ref q25, .null, .null, .null, .null, .null, .int 0, .int 0, .int 0, .int 0, .long 0, .long 0])), (q7, .inl (cy 0, 8, .inl (va_cpy (stV 0) (fun _ => 0) 0 0 8))), (q25, .inl (cy 0, 24, .inl (t4 24)))] H → va_D A [(h, .inr (4, [.ref q7, .ref q25, .null, .null, .null, .null, .null, .int 0, .int 0, .int 0, .int 0, .long 0, .long 0])), (q7, .inl (cy 0, 8, .inl (va_cpy (stV 0) (fun _ => 0) 0 0 8))), (q25, .inl (cy 0, 24, .inl (t4 24)))] → va_S A s.heap H locs → lv_has ls 2 [(1, .int (nI 24)), (0, .ref h)] → W p l e rm_X4_init s m args below meth c H locs 2 32 (MQ below (QN D cy (fun u : Nat → Nat → Nat => u 0 0 = h) (fun u => W_Pt cy u st0) A) args s 35 1951 A) (F0 m 55 ls []) := by
    intro H locs ls hP hD hS hl
    refine lv_aload_n hx hb dX4_init_55 rfl (lv_at hl 1 rfl) ?_
    refine va_new (D := D) (ci := 6) (fs := [.int 0, .int 0, .null, .null, .null, .null, .null, .null, .null, .null]) (C := RX6) (T := TX6) (N := 10) hx hb hts (fun w h => mC (iA_X6 w h)) tyX6 tyX6_ok hown (hts _ (mC qg_X4_25)) (hts _ (mC qx_X6)) (hts _ (mC qn_X6)) hK hP hD hS hA rfl (fun j hj => by rcases (show j = 0 ∨ j = 1 ∨ j = 2 ∨ j = 3 ∨ j = 4 ∨ j = 5 ∨ j = 6 ∨ j = 7 ∨ j = 8 ∨ j = 9 by omega) with rfl | rfl | rfl | rfl | rfl | rfl | rfl | rfl | rfl | rfl <;> rfl) (Nat.le_of_ble_eq_true rfl) (Nat.le_of_ble_eq_true rfl) dX4_init_56 (fun q56 H hP hD hS => ?_)
    refine lv_dup hx hb dX4_init_59 rfl ?_
    refine kI (X := [(h, .inr (4, [.ref q7, .ref q25, .null, .null, .null, .null, .null, .int 0, .int 0, .int 0, .int 0, .long 0, .long 0])), (q7, .inl (cy 0, 8, .inl (va_cpy (stV 0) (fun _ => 0) 0 0 8))), (q25, .inl (cy 0, 24, .inl (t4 24)))]) (post := fun a : Nat → Nat => a 0 = q56) (Wn := fun a => W_S cy a zM9) (rI (X := [(h, .inr (4, [.ref q7, .ref q25, .null, .null, .null, .null, .null, .int 0, .int 0, .int 0, .int 0, .long 0, .long 0])), (q7, .inl (cy 0, 8, .inl (va_cpy (stV 0) (fun _ => 0) 0 0 8))), (q25, .inl (cy 0, 24, .inl (t4 24)))]) (As := []) (rest := [.ref q56, .ref h]) hC (c_X6_init l D cy q56) (cwI 0 hts gX4_init_X6_init rfl rfl rfl (hts _ (mC qn_X6)) (hts _ (mC qm_X4_27)) (hts _ (mC qi_X6_init)) rfl cd_X6_init.2 ⟨Nat.le_of_ble_eq_true rfl, Nat.le_of_ble_eq_true rfl⟩) hK hN hP hD hS hA rfl rfl hl.1 rfl (lv_room (Nat.le_of_ble_eq_true rfl)) dX4_init_60 ⟨Nat.le_of_ble_eq_true rfl, Nat.le_of_ble_eq_true rfl⟩) hP hD hS hA rfl (fun aS H locs e_aS hP9 hD9 hS9 => ?_)
    clear hP hD hS
    subst e_aS
    have hP := hP9
    have hD := hD9
    have hS := hS9
    refine va_putF (D := D) (ci := 4) (v := .ref (aS 0)) (ty := (.object "IcePlant$Store")) (C := RX4) (T := TX4) (N := 13) hx hb hts iX4 tyX4 tyX4_ok nmX4 hown hK hP hD hS 0 rfl rfl 2 (by decide) (hts _ (mC qf_X4_28)) (fun _ h9 => h9) rfl hin rfl (by decide +kernel) rfl rfl (Nat.le_of_ble_eq_true rfl) dX4_init_63 (fun H locs hP hD hS => ?_)
    have hP : va_P D vwCl ([(h, .inr (4, [.ref q7, .ref q25, .ref (aS 0), .null, .null, .null, .null, .int 0, .int 0, .int 0, .int 0, .long 0, .long 0])), (q7, .inl (cy 0, 8, .inl (va_cpy (stV 0) (fun _ => 0) 0 0 8))), (q25, .inl (cy 0, 24, .inl (t4 24)))] ++ W_S cy aS zM9) H := hP
    have hD : va_D A ([(h, .inr (4, [.ref q7, .ref q25, .ref (aS 0), .null, .null, .null, .null, .int 0, .int 0, .int 0, .int 0, .long 0, .long 0])), (q7, .inl (cy 0, 8, .inl (va_cpy (stV 0) (fun _ => 0) 0 0 8))), (q25, .inl (cy 0, 24, .inl (t4 24)))] ++ W_S cy aS zM9) := hD
    refine lv_aload_n hx hb dX4_init_66 rfl (lv_at hl 1 rfl) ?_
    refine va_new (D := D) (ci := 1) (fs := [.int 0, .null, .null, .null]) (C := RX1) (T := TX1) (N := 4) hx hb hts (fun w h => mC (iA_X1 w h)) tyX1 tyX1_ok hown (hts _ (mC qg_X4_32)) (hts _ (mC qx_X1)) (hts _ (mC qn_X1)) hK hP hD hS hA rfl (fun j hj => by rcases (show j = 0 ∨ j = 1 ∨ j = 2 ∨ j = 3 by omega) with rfl | rfl | rfl | rfl <;> rfl) (Nat.le_of_ble_eq_true rfl) (Nat.le_of_ble_eq_true rfl) dX4_init_67 (fun q67 H hP hD hS => ?_)
    refine lv_dup hx hb dX4_init_70 rfl ?_
    refine kI (X := ([(h, .inr (4, [.ref q7, .ref q25, .ref (aS 0), .null, .null, .null, .null, .int 0, .int 0, .int 0, .int 0, .long 0, .long 0])), (q7, .inl (cy 0, 8, .inl (va_cpy (stV 0) (fun _ => 0) 0 0 8))), (q25, .inl (cy 0, 24, .inl (t4 24)))] ++ W_S cy aS zM9)) (post := fun a : Nat → Nat => a 0 = q67) (Wn := fun a => W_B cy a zM9) (rI (X := ([(h, .inr (4, [.ref q7, .ref q25, .ref (aS 0), .null, .null, .null, .null, .int 0, .int 0, .int 0, .int 0, .long 0, .long 0])), (q7, .inl (cy 0, 8, .inl (va_cpy (stV 0) (fun _ => 0) 0 0 8))), (q25, .inl (cy 0, 24, .inl (t4 24)))] ++ W_S cy aS zM9)) (As := []) (rest := [.ref q67, .ref h]) hC (c_X1_init l D cy q67) (cwI 0 hts gX4_init_X1_init rfl rfl rfl (hts _ (mC qn_X1)) (hts _ (mC qm_X4_34)) (hts _ (mC qi_X1_init)) rfl cd_X1_init.2 ⟨Nat.le_of_ble_eq_true rfl, Nat.le_of_ble_eq_true rfl⟩) hK hN hP hD hS hA rfl rfl hl.1 rfl (lv_room (Nat.le_of_ble_eq_true rfl)) dX4_init_71 ⟨Nat.le_of_ble_eq_true rfl, Nat.le_of_ble_eq_true rfl⟩) hP hD hS hA rfl (fun aB H locs e_aB hP9 hD9 hS9 => ?_)
    clear hP hD hS
    subst e_aB
    have hP := hP9
    have hD := hD9
    have hS := hS9
    refine va_putF (D := D) (ci := 4) (v := .ref (aB 0)) (ty := (.object "IcePlant$Boats")) (C := RX4) (T := TX4) (N := 13) hx hb hts iX4 tyX4 tyX4_ok nmX4 hown hK hP hD hS 0 rfl rfl 3 (by decide) (hts _ (mC qf_X4_35)) (fun _ h9 => h9) rfl hin rfl (by decide +kernel) rfl rfl (Nat.le_of_ble_eq_true rfl) dX4_init_74 (fun H locs hP hD hS => ?_)
    have hP : va_P D vwCl (([(h, .inr (4, [.ref q7, .ref q25, .ref (aS 0), .ref (aB 0), .null, .null, .null, .int 0, .int 0, .int 0, .int 0, .long 0, .long 0])), (q7, .inl (cy 0, 8, .inl (va_cpy (stV 0) (fun _ => 0) 0 0 8))), (q25, .inl (cy 0, 24, .inl (t4 24)))] ++ W_S cy aS zM9) ++ W_B cy aB zM9) H := hP
    have hD : va_D A (([(h, .inr (4, [.ref q7, .ref q25, .ref (aS 0), .ref (aB 0), .null, .null, .null, .int 0, .int 0, .int 0, .int 0, .long 0, .long 0])), (q7, .inl (cy 0, 8, .inl (va_cpy (stV 0) (fun _ => 0) 0 0 8))), (q25, .inl (cy 0, 24, .inl (t4 24)))] ++ W_S cy aS zM9) ++ W_B cy aB zM9) := hD
    refine lv_aload_n hx hb dX4_init_77 rfl (lv_at hl 1 rfl) ?_
    refine va_new (D := D) (ci := 3) (fs := [.int 0, .int 0, .null, .null, .null, .null, .null, .null, .null, .null]) (C := RX3) (T := TX3) (N := 10) hx hb hts (fun w h => mC (iA_X3 w h)) tyX3 tyX3_ok hown (hts _ (mC qg_X4_39)) (hts _ (mC qx_X3)) (hts _ (mC qn_X3)) hK hP hD hS hA rfl (fun j hj => by rcases (show j = 0 ∨ j = 1 ∨ j = 2 ∨ j = 3 ∨ j = 4 ∨ j = 5 ∨ j = 6 ∨ j = 7 ∨ j = 8 ∨ j = 9 by omega) with rfl | rfl | rfl | rfl | rfl | rfl | rfl | rfl | rfl | rfl <;> rfl) (Nat.le_of_ble_eq_true rfl) (Nat.le_of_ble_eq_true rfl) dX4_init_78 (fun q78 H hP hD hS => ?_)
    refine lv_dup hx hb dX4_init_81 rfl ?_
    refine kI (X := (([(h, .inr (4, [.ref q7, .ref q25, .ref (aS 0), .ref (aB 0), .null, .null, .null, .int 0, .int 0, .int 0, .int 0, .long 0, .long 0])), (q7, .inl (cy 0, 8, .inl (va_cpy (stV 0) (fun _ => 0) 0 0 8))), (q25, .inl (cy 0, 24, .inl (t4 24)))] ++ W_S cy aS zM9) ++ W_B cy aB zM9)) (post := fun a : Nat → Nat => a 0 = q78) (Wn := fun a => W_O cy a zM9) (rI (X := (([(h, .inr (4, [.ref q7, .ref q25, .ref (aS 0), .ref (aB 0), .null, .null, .null, .int 0, .int 0, .int 0, .int 0, .long 0, .long 0])), (q7, .inl (cy 0, 8, .inl (va_cpy (stV 0) (fun _ => 0) 0 0 8))), (q25, .inl (cy 0, 24, .inl (t4 24)))] ++ W_S cy aS zM9) ++ W_B cy aB zM9)) (As := []) (rest := [.ref q78, .ref h]) hC (c_X3_init l D cy q78) (cwI 0 hts gX4_init_X3_init rfl rfl rfl (hts _ (mC qn_X3)) (hts _ (mC qm_X4_41)) (hts _ (mC qi_X3_init)) rfl cd_X3_init.2 ⟨Nat.le_of_ble_eq_true rfl, Nat.le_of_ble_eq_true rfl⟩) hK hN hP hD hS hA rfl rfl hl.1 rfl (lv_room (Nat.le_of_ble_eq_true rfl)) dX4_init_82 ⟨Nat.le_of_ble_eq_true rfl, Nat.le_of_ble_eq_true rfl⟩) hP hD hS hA rfl (fun aO H locs e_aO hP9 hD9 hS9 => ?_)
    clear hP hD hS
    subst e_aO
    have hP := hP9
    have hD := hD9
    have hS := hS9
    refine va_putF (D := D) (ci := 4) (v := .ref (aO 0)) (ty := (.object "IcePlant$Orders")) (C := RX4) (T := TX4) (N := 13) hx hb hts iX4 tyX4 tyX4_ok nmX4 hown hK hP hD hS 0 rfl rfl 4 (by decide) (hts _ (mC qf_X4_42)) (fun _ h9 => h9) rfl hin rfl (by decide +kernel) rfl rfl (Nat.le_of_ble_eq_true rfl) dX4_init_85 (fun H locs hP hD hS => ?_)
    have hP : va_P D vwCl ((([(h, .inr (4, [.ref q7, .ref q25, .ref (aS 0), .ref (aB 0), .ref (aO 0), .null, .null, .int 0, .int 0, .int 0, .int 0, .long 0, .long 0])), (q7, .inl (cy 0, 8, .inl (va_cpy (stV 0) (fun _ => 0) 0 0 8))), (q25, .inl (cy 0, 24, .inl (t4 24)))] ++ W_S cy aS zM9) ++ W_B cy aB zM9) ++ W_O cy aO zM9) H := hP
    have hD : va_D A ((([(h, .inr (4, [.ref q7, .ref q25, .ref (aS 0), .ref (aB 0), .ref (aO 0), .null, .null, .int 0, .int 0, .int 0, .int 0, .long 0, .long 0])), (q7, .inl (cy 0, 8, .inl (va_cpy (stV 0) (fun _ => 0) 0 0 8))), (q25, .inl (cy 0, 24, .inl (t4 24)))] ++ W_S cy aS zM9) ++ W_B cy aB zM9) ++ W_O cy aO zM9) := hD
    refine lv_aload_n hx hb dX4_init_88 rfl (lv_at hl 1 rfl) ?_
    refine va_new (D := D) (ci := 5) (fs := [.int 0, .int 0, .null, .null, .null, .null, .null]) (C := RX5) (T := TX5) (N := 7) hx hb hts (fun w h => mC (iA_X5 w h)) tyX5 tyX5_ok hown (hts _ (mC qg_X4_46)) (hts _ (mC qx_X5)) (hts _ (mC qn_X5)) hK hP hD hS hA rfl (fun j hj => by rcases (show j = 0 ∨ j = 1 ∨ j = 2 ∨ j = 3 ∨ j = 4 ∨ j = 5 ∨ j = 6 by omega) with rfl | rfl | rfl | rfl | rfl | rfl | rfl <;> rfl) (Nat.le_of_ble_eq_true rfl) (Nat.le_of_ble_eq_true rfl) dX4_init_89 (fun q89 H hP hD hS => ?_)
    refine lv_dup hx hb dX4_init_92 rfl ?_
    refine kI (X := ((([(h, .inr (4, [.ref q7, .ref q25, .ref (aS 0), .ref (aB 0), .ref (aO 0), .null, .null, .int 0, .int 0, .int 0, .int 0, .long 0, .long 0])), (q7, .inl (cy 0, 8, .inl (va_cpy (stV 0) (fun _ => 0) 0 0 8))), (q25, .inl (cy 0, 24, .inl (t4 24)))] ++ W_S cy aS zM9) ++ W_B cy aB zM9) ++ W_O cy aO zM9)) (post := fun a : Nat → Nat => a 0 = q89) (Wn := fun a => W_R cy a zM9) (rI (X := ((([(h, .inr (4, [.ref q7, .ref q25, .ref (aS 0), .ref (aB 0), .ref (aO 0), .null, .null, .int 0, .int 0, .int 0, .int 0, .long 0, .long 0])), (q7, .inl (cy 0, 8, .inl (va_cpy (stV 0) (fun _ => 0) 0 0 8))), (q25, .inl (cy 0, 24, .inl (t4 24)))] ++ W_S cy aS zM9) ++ W_B cy aB zM9) ++ W_O cy aO zM9)) (As := []) (rest := [.ref q89, .ref h]) hC (c_X5_init l D cy q89) (cwI 0 hts gX4_init_X5_init rfl rfl rfl (hts _ (mC qn_X5)) (hts _ (mC qm_X4_48)) (hts _ (mC qi_X5_init)) rfl cd_X5_init.2 ⟨Nat.le_of_ble_eq_true rfl, Nat.le_of_ble_eq_true rfl⟩) hK hN hP hD hS hA rfl rfl hl.1 rfl (lv_room (Nat.le_of_ble_eq_true rfl)) dX4_init_93 ⟨Nat.le_of_ble_eq_true rfl, Nat.le_of_ble_eq_true rfl⟩) hP hD hS hA rfl (fun aR H locs e_aR hP9 hD9 hS9 => ?_)
    clear hP hD hS
    subst e_aR
    have hP := hP9
    have hD := hD9
    have hS := hS9
    refine va_putF (D := D) (ci := 4) (v := .ref (aR 0)) (ty := (.object "IcePlant$Receipts")) (C := RX4) (T := TX4) (N := 13) hx hb hts iX4 tyX4 tyX4_ok nmX4 hown hK hP hD hS 0 rfl rfl 5 (by decide) (hts _ (mC qf_X4_49)) (fun _ h9 => h9) rfl hin rfl (by decide +kernel) rfl rfl (Nat.le_of_ble_eq_true rfl) dX4_init_96 (fun H locs hP hD hS => ?_)
    have hP : va_P D vwCl (((([(h, .inr (4, [.ref q7, .ref q25, .ref (aS 0), .ref (aB 0), .ref (aO 0), .ref (aR 0), .null, .int 0, .int 0, .int 0, .int 0, .long 0, .long 0])), (q7, .inl (cy 0, 8, .inl (va_cpy (stV 0) (fun _ => 0) 0 0 8))), (q25, .inl (cy 0, 24, .inl (t4 24)))] ++ W_S cy aS zM9) ++ W_B cy aB zM9) ++ W_O cy aO zM9) ++ W_R cy aR zM9) H := hP
    have hD : va_D A (((([(h, .inr (4, [.ref q7, .ref q25, .ref (aS 0), .ref (aB 0), .ref (aO 0), .ref (aR 0), .null, .int 0, .int 0, .int 0, .int 0, .long 0, .long 0])), (q7, .inl (cy 0, 8, .inl (va_cpy (stV 0) (fun _ => 0) 0 0 8))), (q25, .inl (cy 0, 24, .inl (t4 24)))] ++ W_S cy aS zM9) ++ W_B cy aB zM9) ++ W_O cy aO zM9) ++ W_R cy aR zM9) := hD
    refine lv_aload_n hx hb dX4_init_99 rfl (lv_at hl 1 rfl) ?_
    refine va_new (D := D) (ci := 0) (fs := [.int 0, .null, .null, .null, .null]) (C := RX0) (T := TX0) (N := 5) hx hb hts (fun w h => mC (iA_X0 w h)) tyX0 tyX0_ok hown (hts _ (mC qg_X4_53)) (hts _ (mC qx_X0)) (hts _ (mC qn_X0)) hK hP hD hS hA rfl (fun j hj => by rcases (show j = 0 ∨ j = 1 ∨ j = 2 ∨ j = 3 ∨ j = 4 by omega) with rfl | rfl | rfl | rfl | rfl <;> rfl) (Nat.le_of_ble_eq_true rfl) (Nat.le_of_ble_eq_true rfl) dX4_init_100 (fun q100 H hP hD hS => ?_)
    refine lv_dup hx hb dX4_init_103 rfl ?_
    refine kI (X := (((([(h, .inr (4, [.ref q7, .ref q25, .ref (aS 0), .ref (aB 0), .ref (aO 0), .ref (aR 0), .null, .int 0, .int 0, .int 0, .int 0, .long 0, .long 0])), (q7, .inl (cy 0, 8, .inl (va_cpy (stV 0) (fun _ => 0) 0 0 8))), (q25, .inl (cy 0, 24, .inl (t4 24)))] ++ W_S cy aS zM9) ++ W_B cy aB zM9) ++ W_O cy aO zM9) ++ W_R cy aR zM9)) (post := fun a : Nat → Nat => a 0 = q100) (Wn := fun a => W_A cy a zM9 zN9) (rI (X := (((([(h, .inr (4, [.ref q7, .ref q25, .ref (aS 0), .ref (aB 0), .ref (aO 0), .ref (aR 0), .null, .int 0, .int 0, .int 0, .int 0, .long 0, .long 0])), (q7, .inl (cy 0, 8, .inl (va_cpy (stV 0) (fun _ => 0) 0 0 8))), (q25, .inl (cy 0, 24, .inl (t4 24)))] ++ W_S cy aS zM9) ++ W_B cy aB zM9) ++ W_O cy aO zM9) ++ W_R cy aR zM9)) (As := []) (rest := [.ref q100, .ref h]) hC (c_X0_init l D cy q100) (cwI 0 hts gX4_init_X0_init rfl rfl rfl (hts _ (mC qn_X0)) (hts _ (mC qm_X4_55)) (hts _ (mC qi_X0_init)) rfl cd_X0_init.2 ⟨Nat.le_of_ble_eq_true rfl, Nat.le_of_ble_eq_true rfl⟩) hK hN hP hD hS hA rfl rfl hl.1 rfl (lv_room (Nat.le_of_ble_eq_true rfl)) dX4_init_104 ⟨Nat.le_of_ble_eq_true rfl, Nat.le_of_ble_eq_true rfl⟩) hP hD hS hA rfl (fun aA H locs e_aA hP9 hD9 hS9 => ?_)
    clear hP hD hS
    subst e_aA
    have hP := hP9
    have hD := hD9
    have hS := hS9
    refine va_putF (D := D) (ci := 4) (v := .ref (aA 0)) (ty := (.object "IcePlant$Accounts")) (C := RX4) (T := TX4) (N := 13) hx hb hts iX4 tyX4 tyX4_ok nmX4 hown hK hP hD hS 0 rfl rfl 6 (by decide) (hts _ (mC qf_X4_56)) (fun _ h9 => h9) rfl hin rfl (by decide +kernel) rfl rfl (Nat.le_of_ble_eq_true rfl) dX4_init_107 (fun H locs hP hD hS => ?_)
    have hP : va_P D vwCl ((((([(h, .inr (4, [.ref q7, .ref q25, .ref (aS 0), .ref (aB 0), .ref (aO 0), .ref (aR 0), .ref (aA 0), .int 0, .int 0, .int 0, .int 0, .long 0, .long 0])), (q7, .inl (cy 0, 8, .inl (va_cpy (stV 0) (fun _ => 0) 0 0 8))), (q25, .inl (cy 0, 24, .inl (t4 24)))] ++ W_S cy aS zM9) ++ W_B cy aB zM9) ++ W_O cy aO zM9) ++ W_R cy aR zM9) ++ W_A cy aA zM9 zN9) H := hP
    have hD : va_D A ((((([(h, .inr (4, [.ref q7, .ref q25, .ref (aS 0), .ref (aB 0), .ref (aO 0), .ref (aR 0), .ref (aA 0), .int 0, .int 0, .int 0, .int 0, .long 0, .long 0])), (q7, .inl (cy 0, 8, .inl (va_cpy (stV 0) (fun _ => 0) 0 0 8))), (q25, .inl (cy 0, 24, .inl (t4 24)))] ++ W_S cy aS zM9) ++ W_B cy aB zM9) ++ W_O cy aO zM9) ++ W_R cy aR zM9) ++ W_A cy aA zM9 zN9) := hD
    have eW : ((((([(h, .inr (4, [.ref q7, .ref q25, .ref (aS 0), .ref (aB 0), .ref (aO 0), .ref (aR 0), .ref (aA 0), .int 0, .int 0, .int 0, .int 0, .long 0, .long 0])), (q7, .inl (cy 0, 8, .inl (va_cpy (stV 0) (fun _ => 0) 0 0 8))), (q25, .inl (cy 0, 24, .inl (t4 24)))] ++ W_S cy aS zM9) ++ W_B cy aB zM9) ++ W_O cy aO zM9) ++ W_R cy aR zM9) ++ W_A cy aA zM9 zN9) = W_Pt cy (fun j : Nat => match j with | 0 => (fun i : Nat => match i with | 0 => h | 1 => q7 | 2 => q25 | _ => 0) | 1 => aS | 2 => aB | 3 => aO | 4 => aR | 5 => aA | _ => fun _ => 0) st0 := by
      simp only [List.append_assoc]
      rfl
    rw [eW] at hP hD
    refine W.widen (k := 35) (n := 1951) (Nat.le_of_ble_eq_true rfl) (Nat.le_of_ble_eq_true rfl) ?_
    exact W.vret hx hb hr (fun t ht hW => ⟨⟨(fun j : Nat => match j with | 0 => (fun i : Nat => match i with | 0 => h | 1 => q7 | 2 => q25 | _ => 0) | 1 => aS | 2 => aB | 3 => aO | 4 => aR | 5 => aA | _ => fun _ => 0), rfl, rfl, by rw [ht]; exact hP, va_K.moved hW.alike hK, hD⟩, hS.F ht⟩) hS.2.2 dX4_init_110
  have loop : ∀ (k j : Nat) (H : Heap) (locs : List Loc) (ls : Array Slot), j + k = 24 → va_P D vwCl [(h, .inr (4, [.ref q7, .ref q25, .null, .null, .null, .null, .null, .int 0, .int 0, .int 0, .int 0, .long 0, .long 0])), (q7, .inl (cy 0, 8, .inl (va_cpy (stV 0) (fun _ => 0) 0 0 8))), (q25, .inl (cy 0, 24, .inl (t4 j)))] H → va_D A [(h, .inr (4, [.ref q7, .ref q25, .null, .null, .null, .null, .null, .int 0, .int 0, .int 0, .int 0, .long 0, .long 0])), (q7, .inl (cy 0, 8, .inl (va_cpy (stV 0) (fun _ => 0) 0 0 8))), (q25, .inl (cy 0, 24, .inl (t4 j)))] → va_S A s.heap H locs → lv_has ls 2 [(1, .int (nI j)), (0, .ref h)] → W p l e rm_X4_init s m args below meth c H locs 2 32 (MQ below (QN D cy (fun u : Nat → Nat → Nat => u 0 0 = h) (fun u => W_Pt cy u st0) A) args s 35 1951 A) (F0 m 32 ls []) := by
    intro k
    induction k with
    | zero =>
      intro j H locs ls hj hP hD hS hl
      obtain rfl : j = 24 := by omega
      refine lv_iload_n hx hb dX4_init_32 rfl (lv_at hl 0 rfl) ?_
      refine lv_aload_n hx hb dX4_init_33 rfl (lv_at hl 1 rfl) ?_
      refine va_get (D := D) (ci := 4) (v := .ref q25) (C := RX4) (T := TX4) (N := 13) hx hb hts iX4 hown hK hP 0 rfl rfl 1 (by decide) (hts _ (mC qf_X4_22)) (fun _ h9 => h9) rfl dX4_init_34 ?_
      refine va_alen hx hb hK hP 2 0 rfl rfl (v := Int32.ofNat 24) rfl dX4_init_37 ?_
      refine lv_icmp_ge (tgt := 55) hx hb dX4_init_38 (by decide) (fun _ => ?_) (fun q9 => absurd (show (Int32.ofNat 24) ≤ nI 24 by decide) q9)
      exact after H locs ls hP hD hS hl
    | succ k ih =>
      intro j H locs ls hj hP hD hS hl
      have hj2 : j < 24 := by omega
      refine lv_iload_n hx hb dX4_init_32 rfl (lv_at hl 0 rfl) ?_
      refine lv_aload_n hx hb dX4_init_33 rfl (lv_at hl 1 rfl) ?_
      refine va_get (D := D) (ci := 4) (v := .ref q25) (C := RX4) (T := TX4) (N := 13) hx hb hts iX4 hown hK hP 0 rfl rfl 1 (by decide) (hts _ (mC qf_X4_22)) (fun _ h9 => h9) rfl dX4_init_34 ?_
      refine va_alen hx hb hK hP 2 0 rfl rfl (v := Int32.ofNat 24) rfl dX4_init_37 ?_
      refine lv_icmp_ge (tgt := 55) hx hb dX4_init_38 (by decide) (fun q9 => absurd q9 (nI_ge hj2 (by decide))) (fun _ => ?_)
      refine lv_aload_n hx hb dX4_init_41 rfl (lv_at hl 1 rfl) ?_
      refine va_get (D := D) (ci := 4) (v := .ref q25) (C := RX4) (T := TX4) (N := 13) hx hb hts iX4 hown hK hP 0 rfl rfl 1 (by decide) (hts _ (mC qf_X4_22)) (fun _ h9 => h9) rfl dX4_init_42 ?_
      refine lv_iload_n hx hb dX4_init_45 rfl (lv_at hl 0 rfl) ?_
      refine lv_bipush (v := 10) hx hb dX4_init_46 (by decide) ?_
      have ec : (nI j).toNatClampNeg = j := nI_clamp (by omega)
      refine s_ia (ws1 := [(h, .inr (4, [.ref q7, .ref q25, .null, .null, .null, .null, .null, .int 0, .int 0, .int 0, .int 0, .long 0, .long 0])), (q7, .inl (cy 0, 8, .inl (va_cpy (stV 0) (fun _ => 0) 0 0 8))), (q25, .inl (cy 0, 24, .inl (t4 (j + 1))))]) hx hb hK hP hD hS 2 rfl (vp_in_nI (by omega) (by decide)) (by rw [ec, t4_s]; rfl) dX4_init_48 (fun H locs hP hD hS => ?_)
      refine lv_iinc (v := nI (j + 1)) (lv' := [(1, .int (nI (j + 1))), (0, .ref h)]) hx hb dX4_init_49 hl (k := 0) rfl (nI_1 j) (by decide) rfl (fun ls hl => ?_)
      refine lv_goto (tgt := 32) hx hb dX4_init_52 (by decide) ?_
      exact ih (j + 1) _ _ _ (by omega) hP hD hS hl
  refine lv_iconst (v := 0) hx hb dX4_init_30 (by decide) ?_
  refine lv_istore_n (lv' := [(1, .int (nI 0)), (0, .ref h)]) hx hb dX4_init_31 rfl hl (by decide) rfl (fun ls hl => ?_)
  exact loop 24 0 _ _ _ rfl (by rw [t4_0]; exact hP) (by rw [t4_0]; exact hD) hS hl
theorem W_HSn_ah (cy : Nat → Nat) (ah ah9 : Nat → Nat → Nat → Nat) (hs : Nat → PSt) : ∀ n, (∀ i, i < n → ah9 i = ah i) → W_HSn cy ah9 hs n = W_HSn cy ah hs n
  | 0, _ => rfl
  | n + 1, h => by
    show W_HSn cy ah9 hs n ++ W_Pt cy (ah9 n) (hs n) = W_HSn cy ah hs n ++ W_Pt cy (ah n) (hs n)
    rw [W_HSn_ah cy ah ah9 hs n (fun i hi => h i (by omega)), h n (by omega)]
def r2 (ah : Nat → Nat → Nat → Nat) (j : Nat) : Nat → Option Nat := fun i => if i < j then some (ah i 0 0) else none
def ah2 (ah : Nat → Nat → Nat → Nat) (j : Nat) (u : Nat → Nat → Nat) : Nat → Nat → Nat → Nat := fun i => if i = j then u else ah i
theorem r2_s (ah : Nat → Nat → Nat → Nat) (j : Nat) (u : Nat → Nat → Nat) : va_up (r2 ah j) j (some (u 0 0)) = r2 (ah2 ah j u) (j + 1) := by
  funext i
  unfold va_up r2 ah2
  by_cases h : i = j
  · rw [if_pos h, if_pos (by omega), if_pos h]
  · rw [if_neg h]
    by_cases h2 : i < j
    · rw [if_pos h2, if_pos (by omega), if_neg h]
    · rw [if_neg h2, if_neg (by omega)]
theorem hs2_s (cy : Nat → Nat) (ah : Nat → Nat → Nat → Nat) (j : Nat) (u : Nat → Nat → Nat) : W_HSn cy ah (fun _ => st0) j ++ W_Pt cy u st0 = W_HSn cy (ah2 ah j u) (fun _ => st0) (j + 1) := by
  show _ = W_HSn cy (ah2 ah j u) (fun _ => st0) j ++ W_Pt cy (ah2 ah j u j) st0
  rw [W_HSn_ah cy ah (ah2 ah j u) _ j (fun i hi => by unfold ah2; rw [if_neg (by omega)])]
  unfold ah2
  rw [if_pos rfl]
abbrev rm_X2_init : Room := { frames := 3, cells := 289, slots := 15720, locals := 60 }
set_option maxHeartbeats 40000000 in
set_option maxRecDepth 100000 in
theorem c_X2_init (l : Launch) (D : va_G) (cy : Nat → Nat) (h : Nat) : CQ l yX2_init wsX2_init rm_X2_init D cy [.ref h] [(h, .inr (2, [.int 0, .int 0, .null]))] 289 15720 (QN D cy (fun u : (Nat → Nat) × (Nat → Nat → Nat → Nat) => u.1 0 = h) (fun u => W_H cy u.1 u.2 zM9 ++ W_HS cy u.2 (fun _ => st0))) := by
  refine CQ_of (cc := cX2_init) (maxL := 2) (ret := none) (by decide) rfl (Nat.le_of_ble_eq_true rfl) (fun p e s m args below meth c A ls hx hb hr hml hlocks hnm hown hts hA hK hN hP hD hS hl => ?_)
  have hown : s.vm.findClass RX2 = some m.cls := hown
  have hin : meth.name = "<init>" := hnm
  have hl : lv_has ls 2 [(0, .ref h)] := hl
  have hC : CallFix p m c cX2_init 2 s args wsX2_init RX2 := ⟨hx, hb, hml, hown, hts⟩
  refine lv_aload_n hx hb dX2_init_0 rfl (lv_at hl 0 rfl) ?_
  refine W.objInit hx hb hown (hts _ (mC qm_X2_1)) (hts _ (mC qi_objectInit)) (hts _ (mC qc_objectInit)) rfl (hl.1.trans hml.symm) rfl dX2_init_1 (Nat.le_of_ble_eq_true rfl) (Nat.le_of_ble_eq_true rfl) ?_
  refine W.eq (g2 := F0 m 4 ls []) rfl ?_
  have iX2 : ∀ w ∈ wsX20, w ∈ wsX2_init := fun w h => mC (iA_X2 w h)
  refine lv_aload_n hx hb dX2_init_4 rfl (lv_at hl 0 rfl) ?_
  refine lv_bipush (v := 8) hx hb dX2_init_5 (by decide) ?_
  refine n_q (N' := 8) hx hb hown (hts _ (mC qg_X2_9)) hN.2.1.2 hK hP hD hS hA (by decide) (by decide) (by decide) (Nat.le_of_ble_eq_true rfl) (Nat.le_of_ble_eq_true rfl) dX2_init_7 (fun q7 H hP hD hS => ?_)
  have hP : va_P D vwCl [(h, .inr (2, [.int 0, .int 0, .null])), (q7, .inl (cy 3, 8, .inr (.inr (.inr (.inr (fun _ => none))))))] H := hP
  have hD : va_D A [(h, .inr (2, [.int 0, .int 0, .null])), (q7, .inl (cy 3, 8, .inr (.inr (.inr (.inr (fun _ => none))))))] := hD
  refine va_putF (D := D) (ci := 2) (v := .ref q7) (ty := (.array (.object "IcePlant$Plant"))) (C := RX2) (T := TX2) (N := 3) hx hb hts iX2 tyX2 tyX2_ok nmX2 hown hK hP hD hS 0 rfl rfl 2 (by decide) (hts _ (mC qf_X2_11)) (fun _ h9 => h9) rfl hin rfl (by decide +kernel) rfl rfl (Nat.le_of_ble_eq_true rfl) dX2_init_10 (fun H locs hP hD hS => ?_)
  have hP : va_P D vwCl [(h, .inr (2, [.int 0, .int 0, .ref q7])), (q7, .inl (cy 3, 8, .inr (.inr (.inr (.inr (fun _ => none))))))] H := hP
  have hD : va_D A [(h, .inr (2, [.int 0, .int 0, .ref q7])), (q7, .inl (cy 3, 8, .inr (.inr (.inr (.inr (fun _ => none))))))] := hD
  have loop : ∀ (k j : Nat) (ah : Nat → Nat → Nat → Nat) (H : Heap) (locs : List Loc) (ls : Array Slot), j + k = 8 → va_P D vwCl ([(h, .inr (2, [.int 0, .int 0, .ref q7])), (q7, .inl (cy 3, 8, .inr (.inr (.inr (.inr (r2 ah j))))))] ++ W_HSn cy ah (fun _ => st0) j) H → va_D A ([(h, .inr (2, [.int 0, .int 0, .ref q7])), (q7, .inl (cy 3, 8, .inr (.inr (.inr (.inr (r2 ah j))))))] ++ W_HSn cy ah (fun _ => st0) j) → va_S A s.heap H locs → lv_has ls 2 [(1, .int (nI j)), (0, .ref h)] → W p l e rm_X2_init s m args below meth c H locs (1 + 36 * j) (8 + 1964 * j) (MQ below (QN D cy (fun u : (Nat → Nat) × (Nat → Nat → Nat → Nat) => u.1 0 = h) (fun u => W_H cy u.1 u.2 zM9 ++ W_HS cy u.2 (fun _ => st0)) A) args s 289 15720 A) (F0 m 15 ls []) := by
    intro k
    induction k with
    | zero =>
      intro j ah H locs ls hj hP hD hS hl
      obtain rfl : j = 8 := by omega
      refine lv_iload_n hx hb dX2_init_15 rfl (lv_at hl 0 rfl) ?_
      refine lv_aload_n hx hb dX2_init_16 rfl (lv_at hl 1 rfl) ?_
      refine va_get (D := D) (ci := 2) (v := .ref q7) (C := RX2) (T := TX2) (N := 3) hx hb hts iX2 hown hK hP 0 rfl rfl 2 (by decide) (hts _ (mC qf_X2_11)) (fun _ h9 => h9) rfl dX2_init_17 ?_
      refine va_alen hx hb hK hP 1 3 rfl rfl (v := Int32.ofNat 8) rfl dX2_init_20 ?_
      refine lv_icmp_ge (tgt := 43) hx hb dX2_init_21 (by decide) (fun _ => ?_) (fun q9 => absurd (show (Int32.ofNat 8) ≤ nI 8 by decide) q9)
      refine W.widen (k := 289) (n := 15720) (by omega) (by omega) ?_
      have hP : va_P D vwCl (W_H cy (fun j : Nat => match j with | 0 => h | 3 => q7 | _ => 0) ah zM9 ++ W_HS cy ah (fun _ => st0)) H := va_P_eq hP (fun k q hk => by
        match k, hk with
        | 0, hk => exact ⟨_, rfl, fun h9 => by cases hk; exact h9⟩
        | 1, hk =>
          refine ⟨_, rfl, fun h9 => ?_⟩
          cases hk
          refine Eq.trans (show H[q7]? = _ from h9) (congrArg some ?_)
          show arrV (cy 3) 8 (fun j => va_rf (r2 ah 8 j)) = arrV (cy 3) 8 (fun j => va_rf (some (ah j 0 0)))
          refine arrV_cg fun j hj => ?_
          unfold r2
          rw [if_pos hj]
        | k + 2, hk => exact ⟨q, hk, fun h9 => h9⟩)
      have hD : va_D A (W_H cy (fun j : Nat => match j with | 0 => h | 3 => q7 | _ => 0) ah zM9 ++ W_HS cy ah (fun _ => st0)) := va_D_fst hD rfl
      exact W.vret hx hb hr (fun t ht hW => ⟨⟨(_, ah), rfl, rfl, by rw [ht]; exact hP, va_K.moved hW.alike hK, hD⟩, hS.F ht⟩) hS.2.2 dX2_init_43
    | succ k ih =>
      intro j ah H locs ls hj hP hD hS hl
      have hj2 : j < 8 := by omega
      refine lv_iload_n hx hb dX2_init_15 rfl (lv_at hl 0 rfl) ?_
      refine lv_aload_n hx hb dX2_init_16 rfl (lv_at hl 1 rfl) ?_
      refine va_get (D := D) (ci := 2) (v := .ref q7) (C := RX2) (T := TX2) (N := 3) hx hb hts iX2 hown hK hP 0 rfl rfl 2 (by decide) (hts _ (mC qf_X2_11)) (fun _ h9 => h9) rfl dX2_init_17 ?_
      refine va_alen hx hb hK hP 1 3 rfl rfl (v := Int32.ofNat 8) rfl dX2_init_20 ?_
      refine lv_icmp_ge (tgt := 43) hx hb dX2_init_21 (by decide) (fun q9 => absurd q9 (nI_ge hj2 (by decide))) (fun _ => ?_)
      refine lv_aload_n hx hb dX2_init_24 rfl (lv_at hl 1 rfl) ?_
      refine va_get (D := D) (ci := 2) (v := .ref q7) (C := RX2) (T := TX2) (N := 3) hx hb hts iX2 hown hK hP 0 rfl rfl 2 (by decide) (hts _ (mC qf_X2_11)) (fun _ h9 => h9) rfl dX2_init_25 ?_
      refine lv_iload_n hx hb dX2_init_28 rfl (lv_at hl 0 rfl) ?_
      refine va_new (D := D) (ci := 4) (fs := [.null, .null, .null, .null, .null, .null, .null, .int 0, .int 0, .int 0, .int 0, .long 0, .long 0]) (C := RX4) (T := TX4) (N := 13) hx hb hts (fun w h => mC (iA_X4 w h)) tyX4 tyX4_ok hown (hts _ (mC qg_X2_9)) (hts _ (mC qx_X4)) (hts _ (mC qn_X4)) hK hP hD hS hA rfl (fun j hj => by rcases (show j = 0 ∨ j = 1 ∨ j = 2 ∨ j = 3 ∨ j = 4 ∨ j = 5 ∨ j = 6 ∨ j = 7 ∨ j = 8 ∨ j = 9 ∨ j = 10 ∨ j = 11 ∨ j = 12 by omega) with rfl | rfl | rfl | rfl | rfl | rfl | rfl | rfl | rfl | rfl | rfl | rfl | rfl <;> rfl) (by show 1 + 36 * j + 1 ≤ 289; omega) (by show 8 + 1964 * j + 13 ≤ 15720; omega) dX2_init_29 (fun q29 H hP hD hS => ?_)
      refine lv_dup hx hb dX2_init_32 rfl ?_
      refine kI (X := ([(h, .inr (2, [.int 0, .int 0, .ref q7])), (q7, .inl (cy 3, 8, .inr (.inr (.inr (.inr (r2 ah j))))))] ++ W_HSn cy ah (fun _ => st0) j)) (post := fun u : Nat → Nat → Nat => u 0 0 = q29) (Wn := fun u => W_Pt cy u st0) (rI (X := ([(h, .inr (2, [.int 0, .int 0, .ref q7])), (q7, .inl (cy 3, 8, .inr (.inr (.inr (.inr (r2 ah j))))))] ++ W_HSn cy ah (fun _ => st0) j)) (As := []) (rest := [.ref q29, .int (nI j), .ref q7]) hC (c_X4_init l D cy q29) (cwI 0 hts gX2_init_X4_init rfl rfl rfl (hts _ (mC qn_X4)) (hts _ (mC qm_X2_15)) (hts _ (mC qi_X4_init)) rfl cd_X4_init.2 ⟨Nat.le_of_ble_eq_true rfl, Nat.le_of_ble_eq_true rfl⟩) hK hN hP hD hS hA rfl rfl hl.1 rfl (lv_room (Nat.le_of_ble_eq_true rfl)) dX2_init_33 ⟨by show 1 + 36 * j + 1 + 35 ≤ 289; omega, by show 8 + 1964 * j + 13 + 1951 ≤ 15720; omega⟩) hP hD hS hA rfl (fun u H locs e_u hP9 hD9 hS9 => ?_)
      clear hP hD hS
      subst e_u
      have hP := hP9
      have hD := hD9
      have hS := hS9
      have hm : ∃ fs, (u 0 0, (.inr (4, fs) : va_E)) ∈ ([(h, .inr (2, [.int 0, .int 0, .ref q7])), (q7, .inl (cy 3, 8, .inr (.inr (.inr (.inr (r2 ah j))))))] ++ W_HSn cy ah (fun _ => st0) j) ++ W_Pt cy u st0 := ⟨_, List.mem_append_right _ (List.mem_append_left _ List.mem_cons_self)⟩
      obtain ⟨fs, hm⟩ := hm
      obtain ⟨qk, hqk⟩ := List.getElem?_of_mem hm
      have ec : (nI j).toNatClampNeg = j := nI_clamp (by omega)
      refine va_astq hx hb hK hP hD hS 1 3 qk 4 (r := (RX4, TX4, 13)) rfl rfl hqk rfl (vp_in_nI (by omega) (by decide)) dX2_init_36 (fun H locs hP hD hS => ?_)
      rw [ec, r2_s] at hP hD
      have eW : (([(h, .inr (2, [.int 0, .int 0, .ref q7])), (q7, .inl (cy 3, 8, .inr (.inr (.inr (.inr (r2 (ah2 ah j u) (j + 1)))))))] ++ W_HSn cy ah (fun _ => st0) j) ++ W_Pt cy u st0) = [(h, .inr (2, [.int 0, .int 0, .ref q7])), (q7, .inl (cy 3, 8, .inr (.inr (.inr (.inr (r2 (ah2 ah j u) (j + 1)))))))] ++ W_HSn cy (ah2 ah j u) (fun _ => st0) (j + 1) := by rw [← hs2_s, List.append_assoc]
      have hP : va_P D vwCl ([(h, .inr (2, [.int 0, .int 0, .ref q7])), (q7, .inl (cy 3, 8, .inr (.inr (.inr (.inr (r2 (ah2 ah j u) (j + 1)))))))] ++ W_HSn cy (ah2 ah j u) (fun _ => st0) (j + 1)) H := eW ▸ hP
      have hD : va_D A ([(h, .inr (2, [.int 0, .int 0, .ref q7])), (q7, .inl (cy 3, 8, .inr (.inr (.inr (.inr (r2 (ah2 ah j u) (j + 1)))))))] ++ W_HSn cy (ah2 ah j u) (fun _ => st0) (j + 1)) := eW ▸ hD
      refine lv_iinc (v := nI (j + 1)) (lv' := [(1, .int (nI (j + 1))), (0, .ref h)]) hx hb dX2_init_37 hl (k := 0) rfl (nI_1 j) (by decide) rfl (fun ls hl => ?_)
      refine lv_goto (tgt := 15) hx hb dX2_init_40 (by decide) ?_
      refine W.widen (k := 1 + 36 * (j + 1)) (n := 8 + 1964 * (j + 1)) (by omega) (by omega) ?_
      exact ih (j + 1) _ _ _ _ (by omega) hP hD hS hl
  refine lv_iconst (v := 0) hx hb dX2_init_13 (by decide) ?_
  refine lv_istore_n (lv' := [(1, .int (nI 0)), (0, .ref h)]) hx hb dX2_init_14 rfl hl (by decide) rfl (fun ls hl => ?_)
  have er : r2 (fun _ _ _ => 0) 0 = fun _ => none := by
    funext i
    unfold r2
    rw [if_neg (Nat.not_lt_zero i)]
  refine W.widen (k := 1 + 36 * 0) (n := 8 + 1964 * 0) (Nat.le_of_ble_eq_true rfl) (Nat.le_of_ble_eq_true rfl) ?_
  exact loop 8 0 (fun _ _ _ => 0) _ _ _ rfl (by rw [er]; exact hP) (by rw [er]; exact hD) hS hl
abbrev rm_X8_init : Room := { frames := 4, cells := 365, slots := 19782, locals := 81 }
/-- the class at its start, by the addresses of its cells -/
abbrev W_0 (cy : Nat → Nat) (h : Nat) (u : (Nat → Nat → Nat) × (Nat → Nat → Nat) × (Nat → Nat) × (Nat → Nat → Nat → Nat) × (Nat → Nat)) : va_W := W_All cy (fun _ => h) u.2.2.2.2 (u.2.1 0) (u.2.1 1) (u.2.1 2) (u.2.1 3) (u.2.1 4) (u.2.1 5) (u.1 0) (u.1 1) (u.1 2) (u.1 3) (u.1 4) (u.1 5) u.2.2.1 u.2.2.2.1 zM9 mP0 zN9 zM9 zM9 zM9 zM9 zM9 zN9 mP0 zN9 zM9 zM9 zM9 zM9 zM9 zN9 zM9 (fun _ => st0)
theorem asm0 (I P Q H K T : va_W) (P1 P2 P3 P4 P5 P6 Q1 Q2 Q3 Q4 Q5 Q6 : va_W) (hP : P = P1 ++ (P2 ++ (P3 ++ (P4 ++ (P5 ++ P6))))) (hQ : Q = Q1 ++ (Q2 ++ (Q3 ++ (Q4 ++ (Q5 ++ Q6))))) : ((((I ++ P) ++ Q) ++ (H ++ K)) ++ T).Perm (I ++ (T ++ (Q1 ++ (Q2 ++ (Q3 ++ (Q4 ++ (Q5 ++ (Q6 ++ (P1 ++ (P2 ++ (P3 ++ (P4 ++ (P5 ++ (P6 ++ (H ++ K))))))))))))))) := by
  have e1 : I ++ (T ++ (Q1 ++ (Q2 ++ (Q3 ++ (Q4 ++ (Q5 ++ (Q6 ++ (P1 ++ (P2 ++ (P3 ++ (P4 ++ (P5 ++ (P6 ++ (H ++ K)))))))))))))) = I ++ (T ++ (Q ++ (P ++ (H ++ K)))) := by subst hP; subst hQ; simp only [List.append_assoc]
  rw [e1]
  have e2 : (((I ++ P) ++ Q) ++ (H ++ K)) ++ T = I ++ ((P ++ (Q ++ (H ++ K))) ++ T) := by simp only [List.append_assoc]
  rw [e2]
  refine List.Perm.append_left I ?_
  refine List.perm_append_comm.trans (List.Perm.append_left T ?_)
  exact List.perm_append_comm_assoc P Q (H ++ K)
set_option maxHeartbeats 40000000 in
set_option maxRecDepth 100000 in
theorem c_X8_init (l : Launch) (D : va_G) (cy : Nat → Nat) (h : Nat) : CQ l yX8_init wsX8_init rm_X8_init D cy [.ref h] [(h, .inr (8, [.null, .null, .null, .null]))] 365 19782 (QN D cy (fun _ : (Nat → Nat → Nat) × (Nat → Nat → Nat) × (Nat → Nat) × (Nat → Nat → Nat → Nat) × (Nat → Nat) => True) (fun u => W_0 cy h u)) := by
  refine CQ_of (cc := cX8_init) (maxL := 1) (ret := none) (by decide) rfl (Nat.le_of_ble_eq_true rfl) (fun p e s m args below meth c A ls hx hb hr hml hlocks hnm hown hts hA hK hN hP hD hS hl => ?_)
  have hown : s.vm.findClass RX8 = some m.cls := hown
  have hin : meth.name = "<init>" := hnm
  have hl : lv_has ls 1 [(0, .ref h)] := hl
  have hC : CallFix p m c cX8_init 1 s args wsX8_init RX8 := ⟨hx, hb, hml, hown, hts⟩
  refine lv_aload_n hx hb dX8_init_0 rfl (lv_at hl 0 rfl) ?_
  refine W.objInit hx hb hown (hts _ (mC qm_X8_1)) (hts _ (mC qi_objectInit)) (hts _ (mC qc_objectInit)) rfl (hl.1.trans hml.symm) rfl dX8_init_1 (Nat.le_of_ble_eq_true rfl) (Nat.le_of_ble_eq_true rfl) ?_
  refine W.eq (g2 := F0 m 4 ls []) rfl ?_
  have iX8 : ∀ w ∈ wsX80, w ∈ wsX8_init := fun w h => mC (iA_X8 w h)
  refine lv_aload_n hx hb dX8_init_4 rfl (lv_at hl 0 rfl) ?_
  refine va_new (D := D) (ci := 4) (fs := [.null, .null, .null, .null, .null, .null, .null, .int 0, .int 0, .int 0, .int 0, .long 0, .long 0]) (C := RX4) (T := TX4) (N := 13) hx hb hts (fun w h => mC (iA_X4 w h)) tyX4 tyX4_ok hown (hts _ (mC qg_X8_7)) (hts _ (mC qx_X4)) (hts _ (mC qn_X4)) hK hP hD hS hA rfl (fun j hj => by rcases (show j = 0 ∨ j = 1 ∨ j = 2 ∨ j = 3 ∨ j = 4 ∨ j = 5 ∨ j = 6 ∨ j = 7 ∨ j = 8 ∨ j = 9 ∨ j = 10 ∨ j = 11 ∨ j = 12 by omega) with rfl | rfl | rfl | rfl | rfl | rfl | rfl | rfl | rfl | rfl | rfl | rfl | rfl <;> rfl) (Nat.le_of_ble_eq_true rfl) (Nat.le_of_ble_eq_true rfl) dX8_init_5 (fun q5 H hP hD hS => ?_)
  refine lv_dup hx hb dX8_init_8 rfl ?_
  refine kI (X := [(h, .inr (8, [.null, .null, .null, .null]))]) (post := fun u : Nat → Nat → Nat => u 0 0 = q5) (Wn := fun u => W_Pt cy u st0) (rI (X := [(h, .inr (8, [.null, .null, .null, .null]))]) (As := []) (rest := [.ref q5, .ref h]) hC (c_X4_init l D cy q5) (cwI 0 hts gX8_init_X4_init rfl rfl rfl (hts _ (mC qn_X4)) (hts _ (mC qm_X8_9)) (hts _ (mC qi_X4_init)) rfl cd_X4_init.2 ⟨Nat.le_of_ble_eq_true rfl, Nat.le_of_ble_eq_true rfl⟩) hK hN hP hD hS hA rfl rfl hl.1 rfl (lv_room (Nat.le_of_ble_eq_true rfl)) dX8_init_9 ⟨Nat.le_of_ble_eq_true rfl, Nat.le_of_ble_eq_true rfl⟩) hP hD hS hA rfl (fun u1 H locs e_u1 hP9 hD9 hS9 => ?_)
  clear hP hD hS
  subst e_u1
  have hP := hP9
  have hD := hD9
  have hS := hS9
  refine va_putF (D := D) (ci := 8) (v := .ref (u1 0 0)) (ty := (.object "IcePlant$Plant")) (C := RX8) (T := TX8) (N := 4) hx hb hts iX8 tyX8 tyX8_ok nmX8 hown hK hP hD hS 0 rfl rfl 0 (by decide) (hts _ (mC qf_X8_10)) (fun _ h9 => h9) rfl hin rfl (by decide +kernel) rfl rfl (Nat.le_of_ble_eq_true rfl) dX8_init_12 (fun H locs hP hD hS => ?_)
  have hP : va_P D vwCl ([(h, .inr (8, [.ref (u1 0 0), .null, .null, .null]))] ++ W_Pt cy u1 st0) H := hP
  have hD : va_D A ([(h, .inr (8, [.ref (u1 0 0), .null, .null, .null]))] ++ W_Pt cy u1 st0) := hD
  refine lv_aload_n hx hb dX8_init_15 rfl (lv_at hl 0 rfl) ?_
  refine va_new (D := D) (ci := 4) (fs := [.null, .null, .null, .null, .null, .null, .null, .int 0, .int 0, .int 0, .int 0, .long 0, .long 0]) (C := RX4) (T := TX4) (N := 13) hx hb hts (fun w h => mC (iA_X4 w h)) tyX4 tyX4_ok hown (hts _ (mC qg_X8_7)) (hts _ (mC qx_X4)) (hts _ (mC qn_X4)) hK hP hD hS hA rfl (fun j hj => by rcases (show j = 0 ∨ j = 1 ∨ j = 2 ∨ j = 3 ∨ j = 4 ∨ j = 5 ∨ j = 6 ∨ j = 7 ∨ j = 8 ∨ j = 9 ∨ j = 10 ∨ j = 11 ∨ j = 12 by omega) with rfl | rfl | rfl | rfl | rfl | rfl | rfl | rfl | rfl | rfl | rfl | rfl | rfl <;> rfl) (Nat.le_of_ble_eq_true rfl) (Nat.le_of_ble_eq_true rfl) dX8_init_16 (fun q16 H hP hD hS => ?_)
  refine lv_dup hx hb dX8_init_19 rfl ?_
  refine kI (X := ([(h, .inr (8, [.ref (u1 0 0), .null, .null, .null]))] ++ W_Pt cy u1 st0)) (post := fun u : Nat → Nat → Nat => u 0 0 = q16) (Wn := fun u => W_Pt cy u st0) (rI (X := ([(h, .inr (8, [.ref (u1 0 0), .null, .null, .null]))] ++ W_Pt cy u1 st0)) (As := []) (rest := [.ref q16, .ref h]) hC (c_X4_init l D cy q16) (cwI 0 hts gX8_init_X4_init rfl rfl rfl (hts _ (mC qn_X4)) (hts _ (mC qm_X8_9)) (hts _ (mC qi_X4_init)) rfl cd_X4_init.2 ⟨Nat.le_of_ble_eq_true rfl, Nat.le_of_ble_eq_true rfl⟩) hK hN hP hD hS hA rfl rfl hl.1 rfl (lv_room (Nat.le_of_ble_eq_true rfl)) dX8_init_20 ⟨Nat.le_of_ble_eq_true rfl, Nat.le_of_ble_eq_true rfl⟩) hP hD hS hA rfl (fun u2 H locs e_u2 hP9 hD9 hS9 => ?_)
  clear hP hD hS
  subst e_u2
  have hP := hP9
  have hD := hD9
  have hS := hS9
  refine va_putF (D := D) (ci := 8) (v := .ref (u2 0 0)) (ty := (.object "IcePlant$Plant")) (C := RX8) (T := TX8) (N := 4) hx hb hts iX8 tyX8 tyX8_ok nmX8 hown hK hP hD hS 0 rfl rfl 1 (by decide) (hts _ (mC qf_X8_16)) (fun _ h9 => h9) rfl hin rfl (by decide +kernel) rfl rfl (Nat.le_of_ble_eq_true rfl) dX8_init_23 (fun H locs hP hD hS => ?_)
  have hP : va_P D vwCl (([(h, .inr (8, [.ref (u1 0 0), .ref (u2 0 0), .null, .null]))] ++ W_Pt cy u1 st0) ++ W_Pt cy u2 st0) H := hP
  have hD : va_D A (([(h, .inr (8, [.ref (u1 0 0), .ref (u2 0 0), .null, .null]))] ++ W_Pt cy u1 st0) ++ W_Pt cy u2 st0) := hD
  refine lv_aload_n hx hb dX8_init_26 rfl (lv_at hl 0 rfl) ?_
  refine va_new (D := D) (ci := 2) (fs := [.int 0, .int 0, .null]) (C := RX2) (T := TX2) (N := 3) hx hb hts (fun w h => mC (iA_X2 w h)) tyX2 tyX2_ok hown (hts _ (mC qg_X8_19)) (hts _ (mC qx_X2)) (hts _ (mC qn_X2)) hK hP hD hS hA rfl (fun j hj => by rcases (show j = 0 ∨ j = 1 ∨ j = 2 by omega) with rfl | rfl | rfl <;> rfl) (Nat.le_of_ble_eq_true rfl) (Nat.le_of_ble_eq_true rfl) dX8_init_27 (fun q27 H hP hD hS => ?_)
  refine lv_dup hx hb dX8_init_30 rfl ?_
  refine kI (X := (([(h, .inr (8, [.ref (u1 0 0), .ref (u2 0 0), .null, .null]))] ++ W_Pt cy u1 st0) ++ W_Pt cy u2 st0)) (post := fun u : (Nat → Nat) × (Nat → Nat → Nat → Nat) => u.1 0 = q27) (Wn := fun u => W_H cy u.1 u.2 zM9 ++ W_HS cy u.2 (fun _ => st0)) (rI (X := (([(h, .inr (8, [.ref (u1 0 0), .ref (u2 0 0), .null, .null]))] ++ W_Pt cy u1 st0) ++ W_Pt cy u2 st0)) (As := []) (rest := [.ref q27, .ref h]) hC (c_X2_init l D cy q27) (cwI 0 hts gX8_init_X2_init rfl rfl rfl (hts _ (mC qn_X2)) (hts _ (mC qm_X8_21)) (hts _ (mC qi_X2_init)) rfl cd_X2_init.2 ⟨Nat.le_of_ble_eq_true rfl, Nat.le_of_ble_eq_true rfl⟩) hK hN hP hD hS hA rfl rfl hl.1 rfl (lv_room (Nat.le_of_ble_eq_true rfl)) dX8_init_31 ⟨Nat.le_of_ble_eq_true rfl, Nat.le_of_ble_eq_true rfl⟩) hP hD hS hA rfl (fun u3 H locs e_u3 hP9 hD9 hS9 => ?_)
  clear hP hD hS
  subst e_u3
  have hP := hP9
  have hD := hD9
  have hS := hS9
  refine va_putF (D := D) (ci := 8) (v := .ref (u3.1 0)) (ty := (.object "IcePlant$History")) (C := RX8) (T := TX8) (N := 4) hx hb hts iX8 tyX8 tyX8_ok nmX8 hown hK hP hD hS 0 rfl rfl 2 (by decide) (hts _ (mC qf_X8_22)) (fun _ h9 => h9) rfl hin rfl (by decide +kernel) rfl rfl (Nat.le_of_ble_eq_true rfl) dX8_init_34 (fun H locs hP hD hS => ?_)
  have hP : va_P D vwCl ((([(h, .inr (8, [.ref (u1 0 0), .ref (u2 0 0), .ref (u3.1 0), .null]))] ++ W_Pt cy u1 st0) ++ W_Pt cy u2 st0) ++ (W_H cy u3.1 u3.2 zM9 ++ W_HS cy u3.2 (fun _ => st0))) H := hP
  have hD : va_D A ((([(h, .inr (8, [.ref (u1 0 0), .ref (u2 0 0), .ref (u3.1 0), .null]))] ++ W_Pt cy u1 st0) ++ W_Pt cy u2 st0) ++ (W_H cy u3.1 u3.2 zM9 ++ W_HS cy u3.2 (fun _ => st0))) := hD
  refine lv_aload_n hx hb dX8_init_37 rfl (lv_at hl 0 rfl) ?_
  refine va_new (D := D) (ci := 7) (fs := [.int 0, .int 0, .int 0, .int 0, .int 0, .null, .int 0, .null]) (C := RX7) (T := TX7) (N := 8) hx hb hts (fun w h => mC (iA_X7 w h)) tyX7 tyX7_ok hown (hts _ (mC qg_X8_26)) (hts _ (mC qx_X7)) (hts _ (mC qn_X7)) hK hP hD hS hA rfl (fun j hj => by rcases (show j = 0 ∨ j = 1 ∨ j = 2 ∨ j = 3 ∨ j = 4 ∨ j = 5 ∨ j = 6 ∨ j = 7 by omega) with rfl | rfl | rfl | rfl | rfl | rfl | rfl | rfl <;> rfl) (Nat.le_of_ble_eq_true rfl) (Nat.le_of_ble_eq_true rfl) dX8_init_38 (fun q38 H hP hD hS => ?_)
  refine lv_dup hx hb dX8_init_41 rfl ?_
  refine kI (X := ((([(h, .inr (8, [.ref (u1 0 0), .ref (u2 0 0), .ref (u3.1 0), .null]))] ++ W_Pt cy u1 st0) ++ W_Pt cy u2 st0) ++ (W_H cy u3.1 u3.2 zM9 ++ W_HS cy u3.2 (fun _ => st0)))) (post := fun a : Nat → Nat => a 0 = q38) (Wn := fun a => W_T cy a zM9) (rI (X := ((([(h, .inr (8, [.ref (u1 0 0), .ref (u2 0 0), .ref (u3.1 0), .null]))] ++ W_Pt cy u1 st0) ++ W_Pt cy u2 st0) ++ (W_H cy u3.1 u3.2 zM9 ++ W_HS cy u3.2 (fun _ => st0)))) (As := []) (rest := [.ref q38, .ref h]) hC (c_X7_init l D cy q38) (cwI 0 hts gX8_init_X7_init rfl rfl rfl (hts _ (mC qn_X7)) (hts _ (mC qm_X8_28)) (hts _ (mC qi_X7_init)) rfl cd_X7_init.2 ⟨Nat.le_of_ble_eq_true rfl, Nat.le_of_ble_eq_true rfl⟩) hK hN hP hD hS hA rfl rfl hl.1 rfl (lv_room (Nat.le_of_ble_eq_true rfl)) dX8_init_42 ⟨Nat.le_of_ble_eq_true rfl, Nat.le_of_ble_eq_true rfl⟩) hP hD hS hA rfl (fun u4 H locs e_u4 hP9 hD9 hS9 => ?_)
  clear hP hD hS
  subst e_u4
  have hP := hP9
  have hD := hD9
  have hS := hS9
  refine va_putF (D := D) (ci := 8) (v := .ref (u4 0)) (ty := (.object "IcePlant$Text")) (C := RX8) (T := TX8) (N := 4) hx hb hts iX8 tyX8 tyX8_ok nmX8 hown hK hP hD hS 0 rfl rfl 3 (by decide) (hts _ (mC qf_X8_29)) (fun _ h9 => h9) rfl hin rfl (by decide +kernel) rfl rfl (Nat.le_of_ble_eq_true rfl) dX8_init_45 (fun H locs hP hD hS => ?_)
  have hP : va_P D vwCl (((([(h, .inr (8, [.ref (u1 0 0), .ref (u2 0 0), .ref (u3.1 0), .ref (u4 0)]))] ++ W_Pt cy u1 st0) ++ W_Pt cy u2 st0) ++ (W_H cy u3.1 u3.2 zM9 ++ W_HS cy u3.2 (fun _ => st0))) ++ W_T cy u4 zM9) H := hP
  have hD : va_D A (((([(h, .inr (8, [.ref (u1 0 0), .ref (u2 0 0), .ref (u3.1 0), .ref (u4 0)]))] ++ W_Pt cy u1 st0) ++ W_Pt cy u2 st0) ++ (W_H cy u3.1 u3.2 zM9 ++ W_HS cy u3.2 (fun _ => st0))) ++ W_T cy u4 zM9) := hD
  have hP := va_P_perm (asm0 _ _ _ _ _ _ _ _ _ _ _ _ _ _ _ _ _ _ rfl rfl) hP
  have hD := va_D_perm (asm0 _ _ _ _ _ _ _ _ _ _ _ _ _ _ _ _ _ _ rfl rfl) hD
  have hP : va_P D vwCl (W_0 cy h (u1, u2, u3.1, u3.2, u4)) H := hP
  have hD : va_D A (W_0 cy h (u1, u2, u3.1, u3.2, u4)) := hD
  refine W.widen (k := 365) (n := 19782) (Nat.le_of_ble_eq_true rfl) (Nat.le_of_ble_eq_true rfl) ?_
  exact W.vret hx hb hr (fun t ht hW => ⟨⟨(u1, u2, u3.1, u3.2, u4), rfl, trivial, by rw [ht]; exact hP, va_K.moved hW.alike hK, hD⟩, hS.F ht⟩) hS.2.2 dX8_init_48
