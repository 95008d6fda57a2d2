abbrev rm_X6_init : Room := { frames := 1, cells := 8, slots := 475, locals := 12 }
set_option maxHeartbeats 40000000 in
set_option maxRecDepth 100000 in
theorem c_X6_init (l : Launch) (D : va_G) (cy : Nat → Nat) (h : Nat) : CQ l yX6_init wsX6_init rm_X6_init D cy [.ref h] [(h, .inr (6, [.int 0, .int 0, .null, .null, .null, .null, .null, .null, .null, .null]))] 8 475 (QN D cy (fun a : Nat → Nat => a 0 = h) (fun a => W_S cy a zM9)) := by
  refine CQ_of (cc := cX6_init) (maxL := 1) (ret := none) (by decide) rfl (Nat.le_of_ble_eq_true rfl) (fun p e s m args below meth c A ls hx hb hr hml hlocks hnm hown hts hA hK hN hP hD hS hl => ?_)
  have hown : s.vm.findClass RX6 = some m.cls := hown
  have hin : meth.name = "<init>" := hnm
  have hl : lv_has ls 1 [(0, .ref h)] := hl
  have hC : CallFix p m c cX6_init 1 s args wsX6_init RX6 := ⟨hx, hb, hml, hown, hts⟩
  refine lv_aload_n hx hb dX6_init_0 rfl (lv_at hl 0 rfl) ?_
  refine W.objInit hx hb hown (hts _ (mC qm_X6_3)) (hts _ (mC qi_objectInit)) (hts _ (mC qc_objectInit)) rfl (hl.1.trans hml.symm) rfl dX6_init_1 (Nat.le_of_ble_eq_true rfl) (Nat.le_of_ble_eq_true rfl) ?_
  refine W.eq (g2 := F0 m 4 ls []) rfl ?_
  have iX6 : ∀ w ∈ wsX60, w ∈ wsX6_init := fun w h => mC (iA_X6 w h)
  refine lv_aload_n hx hb dX6_init_4 rfl (lv_at hl 0 rfl) ?_
  refine lv_iconst (v := 5) hx hb dX6_init_5 (by decide) ?_
  refine n_i (N' := 5) hx hb (hts _ (mC qa_int)) hK hP hD hS hA (by decide) (by decide) (by decide) (Nat.le_of_ble_eq_true rfl) (Nat.le_of_ble_eq_true rfl) dX6_init_6 (fun q6 H hP hD hS => ?_)
  have hP : va_P D vwCl [(h, .inr (6, [.int 0, .int 0, .null, .null, .null, .null, .null, .null, .null, .null])), (q6, .inl (cy 0, 5, .inl (fun _ => 0)))] H := hP
  have hD : va_D A [(h, .inr (6, [.int 0, .int 0, .null, .null, .null, .null, .null, .null, .null, .null])), (q6, .inl (cy 0, 5, .inl (fun _ => 0)))] := hD
  refine va_putF (D := D) (ci := 6) (v := .ref q6) (ty := (.array .int)) (C := RX6) (T := TX6) (N := 10) hx hb hts iX6 tyX6 tyX6_ok nmX6 hown hK hP hD hS 0 rfl rfl 2 (by decide) (hts _ (mC qf_X6_11)) (fun _ h9 => h9) rfl hin rfl (by decide +kernel) rfl rfl (Nat.le_of_ble_eq_true rfl) dX6_init_8 (fun H locs hP hD hS => ?_)
  have hP : va_P D vwCl [(h, .inr (6, [.int 0, .int 0, .ref q6, .null, .null, .null, .null, .null, .null, .null])), (q6, .inl (cy 0, 5, .inl (fun _ => 0)))] H := hP
  have hD : va_D A [(h, .inr (6, [.int 0, .int 0, .ref q6, .null, .null, .null, .null, .null, .null, .null])), (q6, .inl (cy 0, 5, .inl (fun _ => 0)))] := hD
  refine lv_aload_n hx hb dX6_init_11 rfl (lv_at hl 0 rfl) ?_
  refine lv_iconst (v := 5) hx hb dX6_init_12 (by decide) ?_
  refine n_i (N' := 5) hx hb (hts _ (mC qa_int)) hK hP hD hS hA (by decide) (by decide) (by decide) (Nat.le_of_ble_eq_true rfl) (Nat.le_of_ble_eq_true rfl) dX6_init_13 (fun q13 H hP hD hS => ?_)
  have hP : va_P D vwCl [(h, .inr (6, [.int 0, .int 0, .ref q6, .null, .null, .null, .null, .null, .null, .null])), (q6, .inl (cy 0, 5, .inl (fun _ => 0))), (q13, .inl (cy 0, 5, .inl (fun _ => 0)))] H := hP
  have hD : va_D A [(h, .inr (6, [.int 0, .int 0, .ref q6, .null, .null, .null, .null, .null, .null, .null])), (q6, .inl (cy 0, 5, .inl (fun _ => 0))), (q13, .inl (cy 0, 5, .inl (fun _ => 0)))] := hD
  refine va_putF (D := D) (ci := 6) (v := .ref q13) (ty := (.array .int)) (C := RX6) (T := TX6) (N := 10) hx hb hts iX6 tyX6 tyX6_ok nmX6 hown hK hP hD hS 0 rfl rfl 3 (by decide) (hts _ (mC qf_X6_15)) (fun _ h9 => h9) rfl hin rfl (by decide +kernel) rfl rfl (Nat.le_of_ble_eq_true rfl) dX6_init_15 (fun H locs hP hD hS => ?_)
  have hP : va_P D vwCl [(h, .inr (6, [.int 0, .int 0, .ref q6, .ref q13, .null, .null, .null, .null, .null, .null])), (q6, .inl (cy 0, 5, .inl (fun _ => 0))), (q13, .inl (cy 0, 5, .inl (fun _ => 0)))] H := hP
  have hD : va_D A [(h, .inr (6, [.int 0, .int 0, .ref q6, .ref q13, .null, .null, .null, .null, .null, .null])), (q6, .inl (cy 0, 5, .inl (fun _ => 0))), (q13, .inl (cy 0, 5, .inl (fun _ => 0)))] := hD
  refine lv_aload_n hx hb dX6_init_18 rfl (lv_at hl 0 rfl) ?_
  refine lv_iconst (v := 5) hx hb dX6_init_19 (by decide) ?_
  refine n_i (N' := 5) hx hb (hts _ (mC qa_int)) hK hP hD hS hA (by decide) (by decide) (by decide) (Nat.le_of_ble_eq_true rfl) (Nat.le_of_ble_eq_true rfl) dX6_init_20 (fun q20 H hP hD hS => ?_)
  have hP : va_P D vwCl [(h, .inr (6, [.int 0, .int 0, .ref q6, .ref q13, .null, .null, .null, .null, .null, .null])), (q6, .inl (cy 0, 5, .inl (fun _ => 0))), (q13, .inl (cy 0, 5, .inl (fun _ => 0))), (q20, .inl (cy 0, 5, .inl (fun _ => 0)))] H := hP
  have hD : va_D A [(h, .inr (6, [.int 0, .int 0, .ref q6, .ref q13, .null, .null, .null, .null, .null, .null])), (q6, .inl (cy 0, 5, .inl (fun _ => 0))), (q13, .inl (cy 0, 5, .inl (fun _ => 0))), (q20, .inl (cy 0, 5, .inl (fun _ => 0)))] := hD
  refine va_putF (D := D) (ci := 6) (v := .ref q20) (ty := (.array .int)) (C := RX6) (T := TX6) (N := 10) hx hb hts iX6 tyX6 tyX6_ok nmX6 hown hK hP hD hS 0 rfl rfl 4 (by decide) (hts _ (mC qf_X6_18)) (fun _ h9 => h9) rfl hin rfl (by decide +kernel) rfl rfl (Nat.le_of_ble_eq_true rfl) dX6_init_22 (fun H locs hP hD hS => ?_)
  have hP : va_P D vwCl [(h, .inr (6, [.int 0, .int 0, .ref q6, .ref q13, .ref q20, .null, .null, .null, .null, .null])), (q6, .inl (cy 0, 5, .inl (fun _ => 0))), (q13, .inl (cy 0, 5, .inl (fun _ => 0))), (q20, .inl (cy 0, 5, .inl (fun _ => 0)))] H := hP
  have hD : va_D A [(h, .inr (6, [.int 0, .int 0, .ref q6, .ref q13, .ref q20, .null, .null, .null, .null, .null])), (q6, .inl (cy 0, 5, .inl (fun _ => 0))), (q13, .inl (cy 0, 5, .inl (fun _ => 0))), (q20, .inl (cy 0, 5, .inl (fun _ => 0)))] := hD
  refine lv_aload_n hx hb dX6_init_25 rfl (lv_at hl 0 rfl) ?_
  refine lv_iconst (v := 5) hx hb dX6_init_26 (by decide) ?_
  refine n_i (N' := 5) hx hb (hts _ (mC qa_int)) hK hP hD hS hA (by decide) (by decide) (by decide) (Nat.le_of_ble_eq_true rfl) (Nat.le_of_ble_eq_true rfl) dX6_init_27 (fun q27 H hP hD hS => ?_)
  have hP : va_P D vwCl [(h, .inr (6, [.int 0, .int 0, .ref q6, .ref q13, .ref q20, .null, .null, .null, .null, .null])), (q6, .inl (cy 0, 5, .inl (fun _ => 0))), (q13, .inl (cy 0, 5, .inl (fun _ => 0))), (q20, .inl (cy 0, 5, .inl (fun _ => 0))), (q27, .inl (cy 0, 5, .inl (fun _ => 0)))] H := hP
  have hD : va_D A [(h, .inr (6, [.int 0, .int 0, .ref q6, .ref q13, .ref q20, .null, .null, .null, .null, .null])), (q6, .inl (cy 0, 5, .inl (fun _ => 0))), (q13, .inl (cy 0, 5, .inl (fun _ => 0))), (q20, .inl (cy 0, 5, .inl (fun _ => 0))), (q27, .inl (cy 0, 5, .inl (fun _ => 0)))] := hD
  refine va_putF (D := D) (ci := 6) (v := .ref q27) (ty := (.array .int)) (C := RX6) (T := TX6) (N := 10) hx hb hts iX6 tyX6 tyX6_ok nmX6 hown hK hP hD hS 0 rfl rfl 5 (by decide) (hts _ (mC qf_X6_21)) (fun _ h9 => h9) rfl hin rfl (by decide +kernel) rfl rfl (Nat.le_of_ble_eq_true rfl) dX6_init_29 (fun H locs hP hD hS => ?_)
  have hP : va_P D vwCl [(h, .inr (6, [.int 0, .int 0, .ref q6, .ref q13, .ref q20, .ref q27, .null, .null, .null, .null])), (q6, .inl (cy 0, 5, .inl (fun _ => 0))), (q13, .inl (cy 0, 5, .inl (fun _ => 0))), (q20, .inl (cy 0, 5, .inl (fun _ => 0))), (q27, .inl (cy 0, 5, .inl (fun _ => 0)))] H := hP
  have hD : va_D A [(h, .inr (6, [.int 0, .int 0, .ref q6, .ref q13, .ref q20, .ref q27, .null, .null, .null, .null])), (q6, .inl (cy 0, 5, .inl (fun _ => 0))), (q13, .inl (cy 0, 5, .inl (fun _ => 0))), (q20, .inl (cy 0, 5, .inl (fun _ => 0))), (q27, .inl (cy 0, 5, .inl (fun _ => 0)))] := hD
  refine lv_aload_n hx hb dX6_init_32 rfl (lv_at hl 0 rfl) ?_
  refine lv_iconst (v := 5) hx hb dX6_init_33 (by decide) ?_
  refine n_i (N' := 5) hx hb (hts _ (mC qa_int)) hK hP hD hS hA (by decide) (by decide) (by decide) (Nat.le_of_ble_eq_true rfl) (Nat.le_of_ble_eq_true rfl) dX6_init_34 (fun q34 H hP hD hS => ?_)
  have hP : va_P D vwCl [(h, .inr (6, [.int 0, .int 0, .ref q6, .ref q13, .ref q20, .ref q27, .null, .null, .null, .null])), (q6, .inl (cy 0, 5, .inl (fun _ => 0))), (q13, .inl (cy 0, 5, .inl (fun _ => 0))), (q20, .inl (cy 0, 5, .inl (fun _ => 0))), (q27, .inl (cy 0, 5, .inl (fun _ => 0))), (q34, .inl (cy 0, 5, .inl (fun _ => 0)))] H := hP
  have hD : va_D A [(h, .inr (6, [.int 0, .int 0, .ref q6, .ref q13, .ref q20, .ref q27, .null, .null, .null, .null])), (q6, .inl (cy 0, 5, .inl (fun _ => 0))), (q13, .inl (cy 0, 5, .inl (fun _ => 0))), (q20, .inl (cy 0, 5, .inl (fun _ => 0))), (q27, .inl (cy 0, 5, .inl (fun _ => 0))), (q34, .inl (cy 0, 5, .inl (fun _ => 0)))] := hD
  refine va_putF (D := D) (ci := 6) (v := .ref q34) (ty := (.array .int)) (C := RX6) (T := TX6) (N := 10) hx hb hts iX6 tyX6 tyX6_ok nmX6 hown hK hP hD hS 0 rfl rfl 6 (by decide) (hts _ (mC qf_X6_24)) (fun _ h9 => h9) rfl hin rfl (by decide +kernel) rfl rfl (Nat.le_of_ble_eq_true rfl) dX6_init_36 (fun H locs hP hD hS => ?_)
  have hP : va_P D vwCl [(h, .inr (6, [.int 0, .int 0, .ref q6, .ref q13, .ref q20, .ref q27, .ref q34, .null, .null, .null])), (q6, .inl (cy 0, 5, .inl (fun _ => 0))), (q13, .inl (cy 0, 5, .inl (fun _ => 0))), (q20, .inl (cy 0, 5, .inl (fun _ => 0))), (q27, .inl (cy 0, 5, .inl (fun _ => 0))), (q34, .inl (cy 0, 5, .inl (fun _ => 0)))] H := hP
  have hD : va_D A [(h, .inr (6, [.int 0, .int 0, .ref q6, .ref q13, .ref q20, .ref q27, .ref q34, .null, .null, .null])), (q6, .inl (cy 0, 5, .inl (fun _ => 0))), (q13, .inl (cy 0, 5, .inl (fun _ => 0))), (q20, .inl (cy 0, 5, .inl (fun _ => 0))), (q27, .inl (cy 0, 5, .inl (fun _ => 0))), (q34, .inl (cy 0, 5, .inl (fun _ => 0)))] := hD
  refine lv_aload_n hx hb dX6_init_39 rfl (lv_at hl 0 rfl) ?_
  refine lv_sipush (v := 150) hx hb dX6_init_40 (by decide) ?_
  refine n_i (N' := 150) hx hb (hts _ (mC qa_int)) hK hP hD hS hA (by decide) (by decide) (by decide) (Nat.le_of_ble_eq_true rfl) (Nat.le_of_ble_eq_true rfl) dX6_init_43 (fun q43 H hP hD hS => ?_)
  have hP : va_P D vwCl [(h, .inr (6, [.int 0, .int 0, .ref q6, .ref q13, .ref q20, .ref q27, .ref q34, .null, .null, .null])), (q6, .inl (cy 0, 5, .inl (fun _ => 0))), (q13, .inl (cy 0, 5, .inl (fun _ => 0))), (q20, .inl (cy 0, 5, .inl (fun _ => 0))), (q27, .inl (cy 0, 5, .inl (fun _ => 0))), (q34, .inl (cy 0, 5, .inl (fun _ => 0))), (q43, .inl (cy 0, 150, .inl (fun _ => 0)))] H := hP
  have hD : va_D A [(h, .inr (6, [.int 0, .int 0, .ref q6, .ref q13, .ref q20, .ref q27, .ref q34, .null, .null, .null])), (q6, .inl (cy 0, 5, .inl (fun _ => 0))), (q13, .inl (cy 0, 5, .inl (fun _ => 0))), (q20, .inl (cy 0, 5, .inl (fun _ => 0))), (q27, .inl (cy 0, 5, .inl (fun _ => 0))), (q34, .inl (cy 0, 5, .inl (fun _ => 0))), (q43, .inl (cy 0, 150, .inl (fun _ => 0)))] := hD
  refine va_putF (D := D) (ci := 6) (v := .ref q43) (ty := (.array .int)) (C := RX6) (T := TX6) (N := 10) hx hb hts iX6 tyX6 tyX6_ok nmX6 hown hK hP hD hS 0 rfl rfl 7 (by decide) (hts _ (mC qf_X6_27)) (fun _ h9 => h9) rfl hin rfl (by decide +kernel) rfl rfl (Nat.le_of_ble_eq_true rfl) dX6_init_45 (fun H locs hP hD hS => ?_)
  have hP : va_P D vwCl [(h, .inr (6, [.int 0, .int 0, .ref q6, .ref q13, .ref q20, .ref q27, .ref q34, .ref q43, .null, .null])), (q6, .inl (cy 0, 5, .inl (fun _ => 0))), (q13, .inl (cy 0, 5, .inl (fun _ => 0))), (q20, .inl (cy 0, 5, .inl (fun _ => 0))), (q27, .inl (cy 0, 5, .inl (fun _ => 0))), (q34, .inl (cy 0, 5, .inl (fun _ => 0))), (q43, .inl (cy 0, 150, .inl (fun _ => 0)))] H := hP
  have hD : va_D A [(h, .inr (6, [.int 0, .int 0, .ref q6, .ref q13, .ref q20, .ref q27, .ref q34, .ref q43, .null, .null])), (q6, .inl (cy 0, 5, .inl (fun _ => 0))), (q13, .inl (cy 0, 5, .inl (fun _ => 0))), (q20, .inl (cy 0, 5, .inl (fun _ => 0))), (q27, .inl (cy 0, 5, .inl (fun _ => 0))), (q34, .inl (cy 0, 5, .inl (fun _ => 0))), (q43, .inl (cy 0, 150, .inl (fun _ => 0)))] := hD
  refine lv_aload_n hx hb dX6_init_48 rfl (lv_at hl 0 rfl) ?_
  refine lv_sipush (v := 150) hx hb dX6_init_49 (by decide) ?_
  refine n_i (N' := 150) hx hb (hts _ (mC qa_int)) hK hP hD hS hA (by decide) (by decide) (by decide) (Nat.le_of_ble_eq_true rfl) (Nat.le_of_ble_eq_true rfl) dX6_init_52 (fun q52 H hP hD hS => ?_)
  have hP : va_P D vwCl [(h, .inr (6, [.int 0, .int 0, .ref q6, .ref q13, .ref q20, .ref q27, .ref q34, .ref q43, .null, .null])), (q6, .inl (cy 0, 5, .inl (fun _ => 0))), (q13, .inl (cy 0, 5, .inl (fun _ => 0))), (q20, .inl (cy 0, 5, .inl (fun _ => 0))), (q27, .inl (cy 0, 5, .inl (fun _ => 0))), (q34, .inl (cy 0, 5, .inl (fun _ => 0))), (q43, .inl (cy 0, 150, .inl (fun _ => 0))), (q52, .inl (cy 0, 150, .inl (fun _ => 0)))] H := hP
  have hD : va_D A [(h, .inr (6, [.int 0, .int 0, .ref q6, .ref q13, .ref q20, .ref q27, .ref q34, .ref q43, .null, .null])), (q6, .inl (cy 0, 5, .inl (fun _ => 0))), (q13, .inl (cy 0, 5, .inl (fun _ => 0))), (q20, .inl (cy 0, 5, .inl (fun _ => 0))), (q27, .inl (cy 0, 5, .inl (fun _ => 0))), (q34, .inl (cy 0, 5, .inl (fun _ => 0))), (q43, .inl (cy 0, 150, .inl (fun _ => 0))), (q52, .inl (cy 0, 150, .inl (fun _ => 0)))] := hD
  refine va_putF (D := D) (ci := 6) (v := .ref q52) (ty := (.array .int)) (C := RX6) (T := TX6) (N := 10) hx hb hts iX6 tyX6 tyX6_ok nmX6 hown hK hP hD hS 0 rfl rfl 8 (by decide) (hts _ (mC qf_X6_30)) (fun _ h9 => h9) rfl hin rfl (by decide +kernel) rfl rfl (Nat.le_of_ble_eq_true rfl) dX6_init_54 (fun H locs hP hD hS => ?_)
  have hP : va_P D vwCl [(h, .inr (6, [.int 0, .int 0, .ref q6, .ref q13, .ref q20, .ref q27, .ref q34, .ref q43, .ref q52, .null])), (q6, .inl (cy 0, 5, .inl (fun _ => 0))), (q13, .inl (cy 0, 5, .inl (fun _ => 0))), (q20, .inl (cy 0, 5, .inl (fun _ => 0))), (q27, .inl (cy 0, 5, .inl (fun _ => 0))), (q34, .inl (cy 0, 5, .inl (fun _ => 0))), (q43, .inl (cy 0, 150, .inl (fun _ => 0))), (q52, .inl (cy 0, 150, .inl (fun _ => 0)))] H := hP
  have hD : va_D A [(h, .inr (6, [.int 0, .int 0, .ref q6, .ref q13, .ref q20, .ref q27, .ref q34, .ref q43, .ref q52, .null])), (q6, .inl (cy 0, 5, .inl (fun _ => 0))), (q13, .inl (cy 0, 5, .inl (fun _ => 0))), (q20, .inl (cy 0, 5, .inl (fun _ => 0))), (q27, .inl (cy 0, 5, .inl (fun _ => 0))), (q34, .inl (cy 0, 5, .inl (fun _ => 0))), (q43, .inl (cy 0, 150, .inl (fun _ => 0))), (q52, .inl (cy 0, 150, .inl (fun _ => 0)))] := hD
  refine lv_aload_n hx hb dX6_init_57 rfl (lv_at hl 0 rfl) ?_
  refine lv_sipush (v := 150) hx hb dX6_init_58 (by decide) ?_
  refine n_i (N' := 150) hx hb (hts _ (mC qa_int)) hK hP hD hS hA (by decide) (by decide) (by decide) (Nat.le_of_ble_eq_true rfl) (Nat.le_of_ble_eq_true rfl) dX6_init_61 (fun q61 H hP hD hS => ?_)
  have hP : va_P D vwCl [(h, .inr (6, [.int 0, .int 0, .ref q6, .ref q13, .ref q20, .ref q27, .ref q34, .ref q43, .ref q52, .null])), (q6, .inl (cy 0, 5, .inl (fun _ => 0))), (q13, .inl (cy 0, 5, .inl (fun _ => 0))), (q20, .inl (cy 0, 5, .inl (fun _ => 0))), (q27, .inl (cy 0, 5, .inl (fun _ => 0))), (q34, .inl (cy 0, 5, .inl (fun _ => 0))), (q43, .inl (cy 0, 150, .inl (fun _ => 0))), (q52, .inl (cy 0, 150, .inl (fun _ => 0))), (q61, .inl (cy 0, 150, .inl (fun _ => 0)))] H := hP
  have hD : va_D A [(h, .inr (6, [.int 0, .int 0, .ref q6, .ref q13, .ref q20, .ref q27, .ref q34, .ref q43, .ref q52, .null])), (q6, .inl (cy 0, 5, .inl (fun _ => 0))), (q13, .inl (cy 0, 5, .inl (fun _ => 0))), (q20, .inl (cy 0, 5, .inl (fun _ => 0))), (q27, .inl (cy 0, 5, .inl (fun _ => 0))), (q34, .inl (cy 0, 5, .inl (fun _ => 0))), (q43, .inl (cy 0, 150, .inl (fun _ => 0))), (q52, .inl (cy 0, 150, .inl (fun _ => 0))), (q61, .inl (cy 0, 150, .inl (fun _ => 0)))] := hD
  refine va_putF (D := D) (ci := 6) (v := .ref q61) (ty := (.array .int)) (C := RX6) (T := TX6) (N := 10) hx hb hts iX6 tyX6 tyX6_ok nmX6 hown hK hP hD hS 0 rfl rfl 9 (by decide) (hts _ (mC qf_X6_33)) (fun _ h9 => h9) rfl hin rfl (by decide +kernel) rfl rfl (Nat.le_of_ble_eq_true rfl) dX6_init_63 (fun H locs hP hD hS => ?_)
  have hP : va_P D vwCl [(h, .inr (6, [.int 0, .int 0, .ref q6, .ref q13, .ref q20, .ref q27, .ref q34, .ref q43, .ref q52, .ref q61])), (q6, .inl (cy 0, 5, .inl (fun _ => 0))), (q13, .inl (cy 0, 5, .inl (fun _ => 0))), (q20, .inl (cy 0, 5, .inl (fun _ => 0))), (q27, .inl (cy 0, 5, .inl (fun _ => 0))), (q34, .inl (cy 0, 5, .inl (fun _ => 0))), (q43, .inl (cy 0, 150, .inl (fun _ => 0))), (q52, .inl (cy 0, 150, .inl (fun _ => 0))), (q61, .inl (cy 0, 150, .inl (fun _ => 0)))] H := hP
  have hD : va_D A [(h, .inr (6, [.int 0, .int 0, .ref q6, .ref q13, .ref q20, .ref q27, .ref q34, .ref q43, .ref q52, .ref q61])), (q6, .inl (cy 0, 5, .inl (fun _ => 0))), (q13, .inl (cy 0, 5, .inl (fun _ => 0))), (q20, .inl (cy 0, 5, .inl (fun _ => 0))), (q27, .inl (cy 0, 5, .inl (fun _ => 0))), (q34, .inl (cy 0, 5, .inl (fun _ => 0))), (q43, .inl (cy 0, 150, .inl (fun _ => 0))), (q52, .inl (cy 0, 150, .inl (fun _ => 0))), (q61, .inl (cy 0, 150, .inl (fun _ => 0)))] := hD
  refine W.widen (k := 8) (n := 475) (Nat.le_of_ble_eq_true rfl) (Nat.le_of_ble_eq_true rfl) ?_
  exact W.vret hx hb hr (fun t ht hW => ⟨⟨(fun j : Nat => match j with | 0 => h | 3 => q6 | 4 => q13 | 5 => q20 | 6 => q27 | 7 => q34 | 8 => q43 | 9 => q52 | 10 => q61 | _ => 0), rfl, rfl, by rw [ht]; exact hP, va_K.moved hW.alike hK, hD⟩, hS.F ht⟩) hS.2.2 dX6_init_66
abbrev rm_X1_init : Room := { frames := 1, cells := 3, slots := 24, locals := 12 }
set_option maxHeartbeats 40000000 in
set_option maxRecDepth 100000 in
theorem c_X1_init (l : Launch) (D : va_G) (cy : Nat → Nat) (h : Nat) : CQ l yX1_init wsX1_init rm_X1_init D cy [.ref h] [(h, .inr (1, [.int 0, .null, .null, .null]))] 3 24 (QN D cy (fun a : Nat → Nat => a 0 = h) (fun a => W_B cy a zM9)) := by
  refine CQ_of (cc := cX1_init) (maxL := 1) (ret := none) (by decide) rfl (Nat.le_of_ble_eq_true rfl) (fun p e s m args below meth c A ls hx hb hr hml hlocks hnm hown hts hA hK hN hP hD hS hl => ?_)
  have hown : s.vm.findClass RX1 = some m.cls := hown
  have hin : meth.name = "<init>" := hnm
  have hl : lv_has ls 1 [(0, .ref h)] := hl
  have hC : CallFix p m c cX1_init 1 s args wsX1_init RX1 := ⟨hx, hb, hml, hown, hts⟩
  refine lv_aload_n hx hb dX1_init_0 rfl (lv_at hl 0 rfl) ?_
  refine W.objInit hx hb hown (hts _ (mC qm_X1_3)) (hts _ (mC qi_objectInit)) (hts _ (mC qc_objectInit)) rfl (hl.1.trans hml.symm) rfl dX1_init_1 (Nat.le_of_ble_eq_true rfl) (Nat.le_of_ble_eq_true rfl) ?_
  refine W.eq (g2 := F0 m 4 ls []) rfl ?_
  have iX1 : ∀ w ∈ wsX10, w ∈ wsX1_init := fun w h => mC (iA_X1 w h)
  refine lv_aload_n hx hb dX1_init_4 rfl (lv_at hl 0 rfl) ?_
  refine lv_bipush (v := 8) hx hb dX1_init_5 (by decide) ?_
  refine n_i (N' := 8) hx hb (hts _ (mC qa_int)) hK hP hD hS hA (by decide) (by decide) (by decide) (Nat.le_of_ble_eq_true rfl) (Nat.le_of_ble_eq_true rfl) dX1_init_7 (fun q7 H hP hD hS => ?_)
  have hP : va_P D vwCl [(h, .inr (1, [.int 0, .null, .null, .null])), (q7, .inl (cy 0, 8, .inl (fun _ => 0)))] H := hP
  have hD : va_D A [(h, .inr (1, [.int 0, .null, .null, .null])), (q7, .inl (cy 0, 8, .inl (fun _ => 0)))] := hD
  refine va_putF (D := D) (ci := 1) (v := .ref q7) (ty := (.array .int)) (C := RX1) (T := TX1) (N := 4) hx hb hts iX1 tyX1 tyX1_ok nmX1 hown hK hP hD hS 0 rfl rfl 1 (by decide) (hts _ (mC qf_X1_11)) (fun _ h9 => h9) rfl hin rfl (by decide +kernel) rfl rfl (Nat.le_of_ble_eq_true rfl) dX1_init_9 (fun H locs hP hD hS => ?_)
  have hP : va_P D vwCl [(h, .inr (1, [.int 0, .ref q7, .null, .null])), (q7, .inl (cy 0, 8, .inl (fun _ => 0)))] H := hP
  have hD : va_D A [(h, .inr (1, [.int 0, .ref q7, .null, .null])), (q7, .inl (cy 0, 8, .inl (fun _ => 0)))] := hD
  refine lv_aload_n hx hb dX1_init_12 rfl (lv_at hl 0 rfl) ?_
  refine lv_bipush (v := 8) hx hb dX1_init_13 (by decide) ?_
  refine n_i (N' := 8) hx hb (hts _ (mC qa_int)) hK hP hD hS hA (by decide) (by decide) (by decide) (Nat.le_of_ble_eq_true rfl) (Nat.le_of_ble_eq_true rfl) dX1_init_15 (fun q15 H hP hD hS => ?_)
  have hP : va_P D vwCl [(h, .inr (1, [.int 0, .ref q7, .null, .null])), (q7, .inl (cy 0, 8, .inl (fun _ => 0))), (q15, .inl (cy 0, 8, .inl (fun _ => 0)))] H := hP
  have hD : va_D A [(h, .inr (1, [.int 0, .ref q7, .null, .null])), (q7, .inl (cy 0, 8, .inl (fun _ => 0))), (q15, .inl (cy 0, 8, .inl (fun _ => 0)))] := hD
  refine va_putF (D := D) (ci := 1) (v := .ref q15) (ty := (.array .int)) (C := RX1) (T := TX1) (N := 4) hx hb hts iX1 tyX1 tyX1_ok nmX1 hown hK hP hD hS 0 rfl rfl 2 (by decide) (hts _ (mC qf_X1_15)) (fun _ h9 => h9) rfl hin rfl (by decide +kernel) rfl rfl (Nat.le_of_ble_eq_true rfl) dX1_init_17 (fun H locs hP hD hS => ?_)
  have hP : va_P D vwCl [(h, .inr (1, [.int 0, .ref q7, .ref q15, .null])), (q7, .inl (cy 0, 8, .inl (fun _ => 0))), (q15, .inl (cy 0, 8, .inl (fun _ => 0)))] H := hP
  have hD : va_D A [(h, .inr (1, [.int 0, .ref q7, .ref q15, .null])), (q7, .inl (cy 0, 8, .inl (fun _ => 0))), (q15, .inl (cy 0, 8, .inl (fun _ => 0)))] := hD
  refine lv_aload_n hx hb dX1_init_20 rfl (lv_at hl 0 rfl) ?_
  refine lv_bipush (v := 8) hx hb dX1_init_21 (by decide) ?_
  refine n_i (N' := 8) hx hb (hts _ (mC qa_int)) hK hP hD hS hA (by decide) (by decide) (by decide) (Nat.le_of_ble_eq_true rfl) (Nat.le_of_ble_eq_true rfl) dX1_init_23 (fun q23 H hP hD hS => ?_)
  have hP : va_P D vwCl [(h, .inr (1, [.int 0, .ref q7, .ref q15, .null])), (q7, .inl (cy 0, 8, .inl (fun _ => 0))), (q15, .inl (cy 0, 8, .inl (fun _ => 0))), (q23, .inl (cy 0, 8, .inl (fun _ => 0)))] H := hP
  have hD : va_D A [(h, .inr (1, [.int 0, .ref q7, .ref q15, .null])), (q7, .inl (cy 0, 8, .inl (fun _ => 0))), (q15, .inl (cy 0, 8, .inl (fun _ => 0))), (q23, .inl (cy 0, 8, .inl (fun _ => 0)))] := hD
  refine va_putF (D := D) (ci := 1) (v := .ref q23) (ty := (.array .int)) (C := RX1) (T := TX1) (N := 4) hx hb hts iX1 tyX1 tyX1_ok nmX1 hown hK hP hD hS 0 rfl rfl 3 (by decide) (hts _ (mC qf_X1_18)) (fun _ h9 => h9) rfl hin rfl (by decide +kernel) rfl rfl (Nat.le_of_ble_eq_true rfl) dX1_init_25 (fun H locs hP hD hS => ?_)
  have hP : va_P D vwCl [(h, .inr (1, [.int 0, .ref q7, .ref q15, .ref q23])), (q7, .inl (cy 0, 8, .inl (fun _ => 0))), (q15, .inl (cy 0, 8, .inl (fun _ => 0))), (q23, .inl (cy 0, 8, .inl (fun _ => 0)))] H := hP
  have hD : va_D A [(h, .inr (1, [.int 0, .ref q7, .ref q15, .ref q23])), (q7, .inl (cy 0, 8, .inl (fun _ => 0))), (q15, .inl (cy 0, 8, .inl (fun _ => 0))), (q23, .inl (cy 0, 8, .inl (fun _ => 0)))] := hD
  refine W.widen (k := 3) (n := 24) (Nat.le_of_ble_eq_true rfl) (Nat.le_of_ble_eq_true rfl) ?_
  exact W.vret hx hb hr (fun t ht hW => ⟨⟨(fun j : Nat => match j with | 0 => h | 2 => q7 | 3 => q15 | 4 => q23 | _ => 0), rfl, rfl, by rw [ht]; exact hP, va_K.moved hW.alike hK, hD⟩, hS.F ht⟩) hS.2.2 dX1_init_28
abbrev rm_X5_init : Room := { frames := 1, cells := 5, slots := 80, locals := 12 }
set_option maxHeartbeats 40000000 in
set_option maxRecDepth 100000 in
theorem c_X5_init (l : Launch) (D : va_G) (cy : Nat → Nat) (h : Nat) : CQ l yX5_init wsX5_init rm_X5_init D cy [.ref h] [(h, .inr (5, [.int 0, .int 0, .null, .null, .null, .null, .null]))] 5 80 (QN D cy (fun a : Nat → Nat => a 0 = h) (fun a => W_R cy a zM9)) := by
  refine CQ_of (cc := cX5_init) (maxL := 1) (ret := none) (by decide) rfl (Nat.le_of_ble_eq_true rfl) (fun p e s m args below meth c A ls hx hb hr hml hlocks hnm hown hts hA hK hN hP hD hS hl => ?_)
  have hown : s.vm.findClass RX5 = some m.cls := hown
  have hin : meth.name = "<init>" := hnm
  have hl : lv_has ls 1 [(0, .ref h)] := hl
  have hC : CallFix p m c cX5_init 1 s args wsX5_init RX5 := ⟨hx, hb, hml, hown, hts⟩
  refine lv_aload_n hx hb dX5_init_0 rfl (lv_at hl 0 rfl) ?_
  refine W.objInit hx hb hown (hts _ (mC qm_X5_1)) (hts _ (mC qi_objectInit)) (hts _ (mC qc_objectInit)) rfl (hl.1.trans hml.symm) rfl dX5_init_1 (Nat.le_of_ble_eq_true rfl) (Nat.le_of_ble_eq_true rfl) ?_
  refine W.eq (g2 := F0 m 4 ls []) rfl ?_
  have iX5 : ∀ w ∈ wsX50, w ∈ wsX5_init := fun w h => mC (iA_X5 w h)
  refine lv_aload_n hx hb dX5_init_4 rfl (lv_at hl 0 rfl) ?_
  refine lv_bipush (v := 16) hx hb dX5_init_5 (by decide) ?_
  refine n_i (N' := 16) hx hb (hts _ (mC qa_int)) hK hP hD hS hA (by decide) (by decide) (by decide) (Nat.le_of_ble_eq_true rfl) (Nat.le_of_ble_eq_true rfl) dX5_init_7 (fun q7 H hP hD hS => ?_)
  have hP : va_P D vwCl [(h, .inr (5, [.int 0, .int 0, .null, .null, .null, .null, .null])), (q7, .inl (cy 0, 16, .inl (fun _ => 0)))] H := hP
  have hD : va_D A [(h, .inr (5, [.int 0, .int 0, .null, .null, .null, .null, .null])), (q7, .inl (cy 0, 16, .inl (fun _ => 0)))] := hD
  refine va_putF (D := D) (ci := 5) (v := .ref q7) (ty := (.array .int)) (C := RX5) (T := TX5) (N := 7) hx hb hts iX5 tyX5 tyX5_ok nmX5 hown hK hP hD hS 0 rfl rfl 2 (by decide) (hts _ (mC qf_X5_9)) (fun _ h9 => h9) rfl hin rfl (by decide +kernel) rfl rfl (Nat.le_of_ble_eq_true rfl) dX5_init_9 (fun H locs hP hD hS => ?_)
  have hP : va_P D vwCl [(h, .inr (5, [.int 0, .int 0, .ref q7, .null, .null, .null, .null])), (q7, .inl (cy 0, 16, .inl (fun _ => 0)))] H := hP
  have hD : va_D A [(h, .inr (5, [.int 0, .int 0, .ref q7, .null, .null, .null, .null])), (q7, .inl (cy 0, 16, .inl (fun _ => 0)))] := hD
  refine lv_aload_n hx hb dX5_init_12 rfl (lv_at hl 0 rfl) ?_
  refine lv_bipush (v := 16) hx hb dX5_init_13 (by decide) ?_
  refine n_i (N' := 16) hx hb (hts _ (mC qa_int)) hK hP hD hS hA (by decide) (by decide) (by decide) (Nat.le_of_ble_eq_true rfl) (Nat.le_of_ble_eq_true rfl) dX5_init_15 (fun q15 H hP hD hS => ?_)
  have hP : va_P D vwCl [(h, .inr (5, [.int 0, .int 0, .ref q7, .null, .null, .null, .null])), (q7, .inl (cy 0, 16, .inl (fun _ => 0))), (q15, .inl (cy 0, 16, .inl (fun _ => 0)))] H := hP
  have hD : va_D A [(h, .inr (5, [.int 0, .int 0, .ref q7, .null, .null, .null, .null])), (q7, .inl (cy 0, 16, .inl (fun _ => 0))), (q15, .inl (cy 0, 16, .inl (fun _ => 0)))] := hD
  refine va_putF (D := D) (ci := 5) (v := .ref q15) (ty := (.array .int)) (C := RX5) (T := TX5) (N := 7) hx hb hts iX5 tyX5 tyX5_ok nmX5 hown hK hP hD hS 0 rfl rfl 3 (by decide) (hts _ (mC qf_X5_13)) (fun _ h9 => h9) rfl hin rfl (by decide +kernel) rfl rfl (Nat.le_of_ble_eq_true rfl) dX5_init_17 (fun H locs hP hD hS => ?_)
  have hP : va_P D vwCl [(h, .inr (5, [.int 0, .int 0, .ref q7, .ref q15, .null, .null, .null])), (q7, .inl (cy 0, 16, .inl (fun _ => 0))), (q15, .inl (cy 0, 16, .inl (fun _ => 0)))] H := hP
  have hD : va_D A [(h, .inr (5, [.int 0, .int 0, .ref q7, .ref q15, .null, .null, .null])), (q7, .inl (cy 0, 16, .inl (fun _ => 0))), (q15, .inl (cy 0, 16, .inl (fun _ => 0)))] := hD
  refine lv_aload_n hx hb dX5_init_20 rfl (lv_at hl 0 rfl) ?_
  refine lv_bipush (v := 16) hx hb dX5_init_21 (by decide) ?_
  refine n_i (N' := 16) hx hb (hts _ (mC qa_int)) hK hP hD hS hA (by decide) (by decide) (by decide) (Nat.le_of_ble_eq_true rfl) (Nat.le_of_ble_eq_true rfl) dX5_init_23 (fun q23 H hP hD hS => ?_)
  have hP : va_P D vwCl [(h, .inr (5, [.int 0, .int 0, .ref q7, .ref q15, .null, .null, .null])), (q7, .inl (cy 0, 16, .inl (fun _ => 0))), (q15, .inl (cy 0, 16, .inl (fun _ => 0))), (q23, .inl (cy 0, 16, .inl (fun _ => 0)))] H := hP
  have hD : va_D A [(h, .inr (5, [.int 0, .int 0, .ref q7, .ref q15, .null, .null, .null])), (q7, .inl (cy 0, 16, .inl (fun _ => 0))), (q15, .inl (cy 0, 16, .inl (fun _ => 0))), (q23, .inl (cy 0, 16, .inl (fun _ => 0)))] := hD
  refine va_putF (D := D) (ci := 5) (v := .ref q23) (ty := (.array .int)) (C := RX5) (T := TX5) (N := 7) hx hb hts iX5 tyX5 tyX5_ok nmX5 hown hK hP hD hS 0 rfl rfl 4 (by decide) (hts _ (mC qf_X5_16)) (fun _ h9 => h9) rfl hin rfl (by decide +kernel) rfl rfl (Nat.le_of_ble_eq_true rfl) dX5_init_25 (fun H locs hP hD hS => ?_)
  have hP : va_P D vwCl [(h, .inr (5, [.int 0, .int 0, .ref q7, .ref q15, .ref q23, .null, .null])), (q7, .inl (cy 0, 16, .inl (fun _ => 0))), (q15, .inl (cy 0, 16, .inl (fun _ => 0))), (q23, .inl (cy 0, 16, .inl (fun _ => 0)))] H := hP
  have hD : va_D A [(h, .inr (5, [.int 0, .int 0, .ref q7, .ref q15, .ref q23, .null, .null])), (q7, .inl (cy 0, 16, .inl (fun _ => 0))), (q15, .inl (cy 0, 16, .inl (fun _ => 0))), (q23, .inl (cy 0, 16, .inl (fun _ => 0)))] := hD
  refine lv_aload_n hx hb dX5_init_28 rfl (lv_at hl 0 rfl) ?_
  refine lv_bipush (v := 16) hx hb dX5_init_29 (by decide) ?_
  refine n_i (N' := 16) hx hb (hts _ (mC qa_int)) hK hP hD hS hA (by decide) (by decide) (by decide) (Nat.le_of_ble_eq_true rfl) (Nat.le_of_ble_eq_true rfl) dX5_init_31 (fun q31 H hP hD hS => ?_)
  have hP : va_P D vwCl [(h, .inr (5, [.int 0, .int 0, .ref q7, .ref q15, .ref q23, .null, .null])), (q7, .inl (cy 0, 16, .inl (fun _ => 0))), (q15, .inl (cy 0, 16, .inl (fun _ => 0))), (q23, .inl (cy 0, 16, .inl (fun _ => 0))), (q31, .inl (cy 0, 16, .inl (fun _ => 0)))] H := hP
  have hD : va_D A [(h, .inr (5, [.int 0, .int 0, .ref q7, .ref q15, .ref q23, .null, .null])), (q7, .inl (cy 0, 16, .inl (fun _ => 0))), (q15, .inl (cy 0, 16, .inl (fun _ => 0))), (q23, .inl (cy 0, 16, .inl (fun _ => 0))), (q31, .inl (cy 0, 16, .inl (fun _ => 0)))] := hD
  refine va_putF (D := D) (ci := 5) (v := .ref q31) (ty := (.array .int)) (C := RX5) (T := TX5) (N := 7) hx hb hts iX5 tyX5 tyX5_ok nmX5 hown hK hP hD hS 0 rfl rfl 5 (by decide) (hts _ (mC qf_X5_19)) (fun _ h9 => h9) rfl hin rfl (by decide +kernel) rfl rfl (Nat.le_of_ble_eq_true rfl) dX5_init_33 (fun H locs hP hD hS => ?_)
  have hP : va_P D vwCl [(h, .inr (5, [.int 0, .int 0, .ref q7, .ref q15, .ref q23, .ref q31, .null])), (q7, .inl (cy 0, 16, .inl (fun _ => 0))), (q15, .inl (cy 0, 16, .inl (fun _ => 0))), (q23, .inl (cy 0, 16, .inl (fun _ => 0))), (q31, .inl (cy 0, 16, .inl (fun _ => 0)))] H := hP
  have hD : va_D A [(h, .inr (5, [.int 0, .int 0, .ref q7, .ref q15, .ref q23, .ref q31, .null])), (q7, .inl (cy 0, 16, .inl (fun _ => 0))), (q15, .inl (cy 0, 16, .inl (fun _ => 0))), (q23, .inl (cy 0, 16, .inl (fun _ => 0))), (q31, .inl (cy 0, 16, .inl (fun _ => 0)))] := hD
  refine lv_aload_n hx hb dX5_init_36 rfl (lv_at hl 0 rfl) ?_
  refine lv_bipush (v := 16) hx hb dX5_init_37 (by decide) ?_
  refine n_i (N' := 16) hx hb (hts _ (mC qa_int)) hK hP hD hS hA (by decide) (by decide) (by decide) (Nat.le_of_ble_eq_true rfl) (Nat.le_of_ble_eq_true rfl) dX5_init_39 (fun q39 H hP hD hS => ?_)
  have hP : va_P D vwCl [(h, .inr (5, [.int 0, .int 0, .ref q7, .ref q15, .ref q23, .ref q31, .null])), (q7, .inl (cy 0, 16, .inl (fun _ => 0))), (q15, .inl (cy 0, 16, .inl (fun _ => 0))), (q23, .inl (cy 0, 16, .inl (fun _ => 0))), (q31, .inl (cy 0, 16, .inl (fun _ => 0))), (q39, .inl (cy 0, 16, .inl (fun _ => 0)))] H := hP
  have hD : va_D A [(h, .inr (5, [.int 0, .int 0, .ref q7, .ref q15, .ref q23, .ref q31, .null])), (q7, .inl (cy 0, 16, .inl (fun _ => 0))), (q15, .inl (cy 0, 16, .inl (fun _ => 0))), (q23, .inl (cy 0, 16, .inl (fun _ => 0))), (q31, .inl (cy 0, 16, .inl (fun _ => 0))), (q39, .inl (cy 0, 16, .inl (fun _ => 0)))] := hD
  refine va_putF (D := D) (ci := 5) (v := .ref q39) (ty := (.array .int)) (C := RX5) (T := TX5) (N := 7) hx hb hts iX5 tyX5 tyX5_ok nmX5 hown hK hP hD hS 0 rfl rfl 6 (by decide) (hts _ (mC qf_X5_22)) (fun _ h9 => h9) rfl hin rfl (by decide +kernel) rfl rfl (Nat.le_of_ble_eq_true rfl) dX5_init_41 (fun H locs hP hD hS => ?_)
  have hP : va_P D vwCl [(h, .inr (5, [.int 0, .int 0, .ref q7, .ref q15, .ref q23, .ref q31, .ref q39])), (q7, .inl (cy 0, 16, .inl (fun _ => 0))), (q15, .inl (cy 0, 16, .inl (fun _ => 0))), (q23, .inl (cy 0, 16, .inl (fun _ => 0))), (q31, .inl (cy 0, 16, .inl (fun _ => 0))), (q39, .inl (cy 0, 16, .inl (fun _ => 0)))] H := hP
  have hD : va_D A [(h, .inr (5, [.int 0, .int 0, .ref q7, .ref q15, .ref q23, .ref q31, .ref q39])), (q7, .inl (cy 0, 16, .inl (fun _ => 0))), (q15, .inl (cy 0, 16, .inl (fun _ => 0))), (q23, .inl (cy 0, 16, .inl (fun _ => 0))), (q31, .inl (cy 0, 16, .inl (fun _ => 0))), (q39, .inl (cy 0, 16, .inl (fun _ => 0)))] := hD
  refine W.widen (k := 5) (n := 80) (Nat.le_of_ble_eq_true rfl) (Nat.le_of_ble_eq_true rfl) ?_
  exact W.vret hx hb hr (fun t ht hW => ⟨⟨(fun j : Nat => match j with | 0 => h | 3 => q7 | 4 => q15 | 5 => q23 | 6 => q31 | 7 => q39 | _ => 0), rfl, rfl, by rw [ht]; exact hP, va_K.moved hW.alike hK, hD⟩, hS.F ht⟩) hS.2.2 dX5_init_44
abbrev rm_X0_init : Room := { frames := 1, cells := 4, slots := 64, locals := 12 }
set_option maxHeartbeats 40000000 in
set_option maxRecDepth 100000 in
theorem c_X0_init (l : Launch) (D : va_G) (cy : Nat → Nat) (h : Nat) : CQ l yX0_init wsX0_init rm_X0_init D cy [.ref h] [(h, .inr (0, [.int 0, .null, .null, .null, .null]))] 4 64 (QN D cy (fun a : Nat → Nat => a 0 = h) (fun a => W_A cy a zM9 zN9)) := by
  refine CQ_of (cc := cX0_init) (maxL := 1) (ret := none) (by decide) rfl (Nat.le_of_ble_eq_true rfl) (fun p e s m args below meth c A ls hx hb hr hml hlocks hnm hown hts hA hK hN hP hD hS hl => ?_)
  have hown : s.vm.findClass RX0 = some m.cls := hown
  have hin : meth.name = "<init>" := hnm
  have hl : lv_has ls 1 [(0, .ref h)] := hl
  have hC : CallFix p m c cX0_init 1 s args wsX0_init RX0 := ⟨hx, hb, hml, hown, hts⟩
  refine lv_aload_n hx hb dX0_init_0 rfl (lv_at hl 0 rfl) ?_
  refine W.objInit hx hb hown (hts _ (mC qm_X0_3)) (hts _ (mC qi_objectInit)) (hts _ (mC qc_objectInit)) rfl (hl.1.trans hml.symm) rfl dX0_init_1 (Nat.le_of_ble_eq_true rfl) (Nat.le_of_ble_eq_true rfl) ?_
  refine W.eq (g2 := F0 m 4 ls []) rfl ?_
  have iX0 : ∀ w ∈ wsX00, w ∈ wsX0_init := fun w h => mC (iA_X0 w h)
  refine lv_aload_n hx hb dX0_init_4 rfl (lv_at hl 0 rfl) ?_
  refine lv_bipush (v := 16) hx hb dX0_init_5 (by decide) ?_
  refine n_i (N' := 16) hx hb (hts _ (mC qa_int)) hK hP hD hS hA (by decide) (by decide) (by decide) (Nat.le_of_ble_eq_true rfl) (Nat.le_of_ble_eq_true rfl) dX0_init_7 (fun q7 H hP hD hS => ?_)
  have hP : va_P D vwCl [(h, .inr (0, [.int 0, .null, .null, .null, .null])), (q7, .inl (cy 0, 16, .inl (fun _ => 0)))] H := hP
  have hD : va_D A [(h, .inr (0, [.int 0, .null, .null, .null, .null])), (q7, .inl (cy 0, 16, .inl (fun _ => 0)))] := hD
  refine va_putF (D := D) (ci := 0) (v := .ref q7) (ty := (.array .int)) (C := RX0) (T := TX0) (N := 5) hx hb hts iX0 tyX0 tyX0_ok nmX0 hown hK hP hD hS 0 rfl rfl 1 (by decide) (hts _ (mC qf_X0_11)) (fun _ h9 => h9) rfl hin rfl (by decide +kernel) rfl rfl (Nat.le_of_ble_eq_true rfl) dX0_init_9 (fun H locs hP hD hS => ?_)
  have hP : va_P D vwCl [(h, .inr (0, [.int 0, .ref q7, .null, .null, .null])), (q7, .inl (cy 0, 16, .inl (fun _ => 0)))] H := hP
  have hD : va_D A [(h, .inr (0, [.int 0, .ref q7, .null, .null, .null])), (q7, .inl (cy 0, 16, .inl (fun _ => 0)))] := hD
  refine lv_aload_n hx hb dX0_init_12 rfl (lv_at hl 0 rfl) ?_
  refine lv_bipush (v := 16) hx hb dX0_init_13 (by decide) ?_
  refine n_i (N' := 16) hx hb (hts _ (mC qa_int)) hK hP hD hS hA (by decide) (by decide) (by decide) (Nat.le_of_ble_eq_true rfl) (Nat.le_of_ble_eq_true rfl) dX0_init_15 (fun q15 H hP hD hS => ?_)
  have hP : va_P D vwCl [(h, .inr (0, [.int 0, .ref q7, .null, .null, .null])), (q7, .inl (cy 0, 16, .inl (fun _ => 0))), (q15, .inl (cy 0, 16, .inl (fun _ => 0)))] H := hP
  have hD : va_D A [(h, .inr (0, [.int 0, .ref q7, .null, .null, .null])), (q7, .inl (cy 0, 16, .inl (fun _ => 0))), (q15, .inl (cy 0, 16, .inl (fun _ => 0)))] := hD
  refine va_putF (D := D) (ci := 0) (v := .ref q15) (ty := (.array .int)) (C := RX0) (T := TX0) (N := 5) hx hb hts iX0 tyX0 tyX0_ok nmX0 hown hK hP hD hS 0 rfl rfl 2 (by decide) (hts _ (mC qf_X0_15)) (fun _ h9 => h9) rfl hin rfl (by decide +kernel) rfl rfl (Nat.le_of_ble_eq_true rfl) dX0_init_17 (fun H locs hP hD hS => ?_)
  have hP : va_P D vwCl [(h, .inr (0, [.int 0, .ref q7, .ref q15, .null, .null])), (q7, .inl (cy 0, 16, .inl (fun _ => 0))), (q15, .inl (cy 0, 16, .inl (fun _ => 0)))] H := hP
  have hD : va_D A [(h, .inr (0, [.int 0, .ref q7, .ref q15, .null, .null])), (q7, .inl (cy 0, 16, .inl (fun _ => 0))), (q15, .inl (cy 0, 16, .inl (fun _ => 0)))] := hD
  refine lv_aload_n hx hb dX0_init_20 rfl (lv_at hl 0 rfl) ?_
  refine lv_bipush (v := 16) hx hb dX0_init_21 (by decide) ?_
  refine n_l (N' := 16) hx hb (hts _ (mC qa_long)) hK hP hD hS hA (by decide) (by decide) (by decide) (Nat.le_of_ble_eq_true rfl) (Nat.le_of_ble_eq_true rfl) dX0_init_23 (fun q23 H hP hD hS => ?_)
  have hP : va_P D vwCl [(h, .inr (0, [.int 0, .ref q7, .ref q15, .null, .null])), (q7, .inl (cy 0, 16, .inl (fun _ => 0))), (q15, .inl (cy 0, 16, .inl (fun _ => 0))), (q23, .inl (cy 1, 16, .inr (.inl (fun _ => 0))))] H := hP
  have hD : va_D A [(h, .inr (0, [.int 0, .ref q7, .ref q15, .null, .null])), (q7, .inl (cy 0, 16, .inl (fun _ => 0))), (q15, .inl (cy 0, 16, .inl (fun _ => 0))), (q23, .inl (cy 1, 16, .inr (.inl (fun _ => 0))))] := hD
  refine va_putF (D := D) (ci := 0) (v := .ref q23) (ty := (.array .long)) (C := RX0) (T := TX0) (N := 5) hx hb hts iX0 tyX0 tyX0_ok nmX0 hown hK hP hD hS 0 rfl rfl 3 (by decide) (hts _ (mC qf_X0_18)) (fun _ h9 => h9) rfl hin rfl (by decide +kernel) rfl rfl (Nat.le_of_ble_eq_true rfl) dX0_init_25 (fun H locs hP hD hS => ?_)
  have hP : va_P D vwCl [(h, .inr (0, [.int 0, .ref q7, .ref q15, .ref q23, .null])), (q7, .inl (cy 0, 16, .inl (fun _ => 0))), (q15, .inl (cy 0, 16, .inl (fun _ => 0))), (q23, .inl (cy 1, 16, .inr (.inl (fun _ => 0))))] H := hP
  have hD : va_D A [(h, .inr (0, [.int 0, .ref q7, .ref q15, .ref q23, .null])), (q7, .inl (cy 0, 16, .inl (fun _ => 0))), (q15, .inl (cy 0, 16, .inl (fun _ => 0))), (q23, .inl (cy 1, 16, .inr (.inl (fun _ => 0))))] := hD
  refine lv_aload_n hx hb dX0_init_28 rfl (lv_at hl 0 rfl) ?_
  refine lv_bipush (v := 16) hx hb dX0_init_29 (by decide) ?_
  refine n_l (N' := 16) hx hb (hts _ (mC qa_long)) hK hP hD hS hA (by decide) (by decide) (by decide) (Nat.le_of_ble_eq_true rfl) (Nat.le_of_ble_eq_true rfl) dX0_init_31 (fun q31 H hP hD hS => ?_)
  have hP : va_P D vwCl [(h, .inr (0, [.int 0, .ref q7, .ref q15, .ref q23, .null])), (q7, .inl (cy 0, 16, .inl (fun _ => 0))), (q15, .inl (cy 0, 16, .inl (fun _ => 0))), (q23, .inl (cy 1, 16, .inr (.inl (fun _ => 0)))), (q31, .inl (cy 1, 16, .inr (.inl (fun _ => 0))))] H := hP
  have hD : va_D A [(h, .inr (0, [.int 0, .ref q7, .ref q15, .ref q23, .null])), (q7, .inl (cy 0, 16, .inl (fun _ => 0))), (q15, .inl (cy 0, 16, .inl (fun _ => 0))), (q23, .inl (cy 1, 16, .inr (.inl (fun _ => 0)))), (q31, .inl (cy 1, 16, .inr (.inl (fun _ => 0))))] := hD
  refine va_putF (D := D) (ci := 0) (v := .ref q31) (ty := (.array .long)) (C := RX0) (T := TX0) (N := 5) hx hb hts iX0 tyX0 tyX0_ok nmX0 hown hK hP hD hS 0 rfl rfl 4 (by decide) (hts _ (mC qf_X0_22)) (fun _ h9 => h9) rfl hin rfl (by decide +kernel) rfl rfl (Nat.le_of_ble_eq_true rfl) dX0_init_33 (fun H locs hP hD hS => ?_)
  have hP : va_P D vwCl [(h, .inr (0, [.int 0, .ref q7, .ref q15, .ref q23, .ref q31])), (q7, .inl (cy 0, 16, .inl (fun _ => 0))), (q15, .inl (cy 0, 16, .inl (fun _ => 0))), (q23, .inl (cy 1, 16, .inr (.inl (fun _ => 0)))), (q31, .inl (cy 1, 16, .inr (.inl (fun _ => 0))))] H := hP
  have hD : va_D A [(h, .inr (0, [.int 0, .ref q7, .ref q15, .ref q23, .ref q31])), (q7, .inl (cy 0, 16, .inl (fun _ => 0))), (q15, .inl (cy 0, 16, .inl (fun _ => 0))), (q23, .inl (cy 1, 16, .inr (.inl (fun _ => 0)))), (q31, .inl (cy 1, 16, .inr (.inl (fun _ => 0))))] := hD
  refine W.widen (k := 4) (n := 64) (Nat.le_of_ble_eq_true rfl) (Nat.le_of_ble_eq_true rfl) ?_
  exact W.vret hx hb hr (fun t ht hW => ⟨⟨(fun j : Nat => match j with | 0 => h | 2 => q7 | 3 => q15 | 4 => q23 | 5 => q31 | _ => 0), rfl, rfl, by rw [ht]; exact hP, va_K.moved hW.alike hK, hD⟩, hS.F ht⟩) hS.2.2 dX0_init_36
abbrev rm_X3_init : Room := { frames := 1, cells := 8, slots := 1240, locals := 12 }
set_option maxHeartbeats 40000000 in
set_option maxRecDepth 100000 in
theorem c_X3_init (l : Launch) (D : va_G) (cy : Nat → Nat) (h : Nat) : CQ l yX3_init wsX3_init rm_X3_init D cy [.ref h] [(h, .inr (3, [.int 0, .int 0, .null, .null, .null, .null, .null, .null, .null, .null]))] 8 1240 (QN D cy (fun a : Nat → Nat => a 0 = h) (fun a => W_O cy a zM9)) := by
  refine CQ_of (cc := cX3_init) (maxL := 1) (ret := none) (by decide) rfl (Nat.le_of_ble_eq_true rfl) (fun p e s m args below meth c A ls hx hb hr hml hlocks hnm hown hts hA hK hN hP hD hS hl => ?_)
  have hown : s.vm.findClass RX3 = some m.cls := hown
  have hin : meth.name = "<init>" := hnm
  have hl : lv_has ls 1 [(0, .ref h)] := hl
  have hC : CallFix p m c cX3_init 1 s args wsX3_init RX3 := ⟨hx, hb, hml, hown, hts⟩
  refine lv_aload_n hx hb dX3_init_0 rfl (lv_at hl 0 rfl) ?_
  refine W.objInit hx hb hown (hts _ (mC qm_X3_3)) (hts _ (mC qi_objectInit)) (hts _ (mC qc_objectInit)) rfl (hl.1.trans hml.symm) rfl dX3_init_1 (Nat.le_of_ble_eq_true rfl) (Nat.le_of_ble_eq_true rfl) ?_
  refine W.eq (g2 := F0 m 4 ls []) rfl ?_
  have iX3 : ∀ w ∈ wsX30, w ∈ wsX3_init := fun w h => mC (iA_X3 w h)
  refine lv_aload_n hx hb dX3_init_4 rfl (lv_at hl 0 rfl) ?_
  refine lv_sipush (v := 200) hx hb dX3_init_5 (by decide) ?_
  refine n_i (N' := 200) hx hb (hts _ (mC qa_int)) hK hP hD hS hA (by decide) (by decide) (by decide) (Nat.le_of_ble_eq_true rfl) (Nat.le_of_ble_eq_true rfl) dX3_init_8 (fun q8 H hP hD hS => ?_)
  have hP : va_P D vwCl [(h, .inr (3, [.int 0, .int 0, .null, .null, .null, .null, .null, .null, .null, .null])), (q8, .inl (cy 0, 200, .inl (fun _ => 0)))] H := hP
  have hD : va_D A [(h, .inr (3, [.int 0, .int 0, .null, .null, .null, .null, .null, .null, .null, .null])), (q8, .inl (cy 0, 200, .inl (fun _ => 0)))] := hD
  refine va_putF (D := D) (ci := 3) (v := .ref q8) (ty := (.array .int)) (C := RX3) (T := TX3) (N := 10) hx hb hts iX3 tyX3 tyX3_ok nmX3 hown hK hP hD hS 0 rfl rfl 2 (by decide) (hts _ (mC qf_X3_11)) (fun _ h9 => h9) rfl hin rfl (by decide +kernel) rfl rfl (Nat.le_of_ble_eq_true rfl) dX3_init_10 (fun H locs hP hD hS => ?_)
  have hP : va_P D vwCl [(h, .inr (3, [.int 0, .int 0, .ref q8, .null, .null, .null, .null, .null, .null, .null])), (q8, .inl (cy 0, 200, .inl (fun _ => 0)))] H := hP
  have hD : va_D A [(h, .inr (3, [.int 0, .int 0, .ref q8, .null, .null, .null, .null, .null, .null, .null])), (q8, .inl (cy 0, 200, .inl (fun _ => 0)))] := hD
  refine lv_aload_n hx hb dX3_init_13 rfl (lv_at hl 0 rfl) ?_
  refine lv_sipush (v := 200) hx hb dX3_init_14 (by decide) ?_
  refine n_i (N' := 200) hx hb (hts _ (mC qa_int)) hK hP hD hS hA (by decide) (by decide) (by decide) (Nat.le_of_ble_eq_true rfl) (Nat.le_of_ble_eq_true rfl) dX3_init_17 (fun q17 H hP hD hS => ?_)
  have hP : va_P D vwCl [(h, .inr (3, [.int 0, .int 0, .ref q8, .null, .null, .null, .null, .null, .null, .null])), (q8, .inl (cy 0, 200, .inl (fun _ => 0))), (q17, .inl (cy 0, 200, .inl (fun _ => 0)))] H := hP
  have hD : va_D A [(h, .inr (3, [.int 0, .int 0, .ref q8, .null, .null, .null, .null, .null, .null, .null])), (q8, .inl (cy 0, 200, .inl (fun _ => 0))), (q17, .inl (cy 0, 200, .inl (fun _ => 0)))] := hD
  refine va_putF (D := D) (ci := 3) (v := .ref q17) (ty := (.array .int)) (C := RX3) (T := TX3) (N := 10) hx hb hts iX3 tyX3 tyX3_ok nmX3 hown hK hP hD hS 0 rfl rfl 3 (by decide) (hts _ (mC qf_X3_15)) (fun _ h9 => h9) rfl hin rfl (by decide +kernel) rfl rfl (Nat.le_of_ble_eq_true rfl) dX3_init_19 (fun H locs hP hD hS => ?_)
  have hP : va_P D vwCl [(h, .inr (3, [.int 0, .int 0, .ref q8, .ref q17, .null, .null, .null, .null, .null, .null])), (q8, .inl (cy 0, 200, .inl (fun _ => 0))), (q17, .inl (cy 0, 200, .inl (fun _ => 0)))] H := hP
  have hD : va_D A [(h, .inr (3, [.int 0, .int 0, .ref q8, .ref q17, .null, .null, .null, .null, .null, .null])), (q8, .inl (cy 0, 200, .inl (fun _ => 0))), (q17, .inl (cy 0, 200, .inl (fun _ => 0)))] := hD
  refine lv_aload_n hx hb dX3_init_22 rfl (lv_at hl 0 rfl) ?_
  refine lv_sipush (v := 200) hx hb dX3_init_23 (by decide) ?_
  refine n_i (N' := 200) hx hb (hts _ (mC qa_int)) hK hP hD hS hA (by decide) (by decide) (by decide) (Nat.le_of_ble_eq_true rfl) (Nat.le_of_ble_eq_true rfl) dX3_init_26 (fun q26 H hP hD hS => ?_)
  have hP : va_P D vwCl [(h, .inr (3, [.int 0, .int 0, .ref q8, .ref q17, .null, .null, .null, .null, .null, .null])), (q8, .inl (cy 0, 200, .inl (fun _ => 0))), (q17, .inl (cy 0, 200, .inl (fun _ => 0))), (q26, .inl (cy 0, 200, .inl (fun _ => 0)))] H := hP
  have hD : va_D A [(h, .inr (3, [.int 0, .int 0, .ref q8, .ref q17, .null, .null, .null, .null, .null, .null])), (q8, .inl (cy 0, 200, .inl (fun _ => 0))), (q17, .inl (cy 0, 200, .inl (fun _ => 0))), (q26, .inl (cy 0, 200, .inl (fun _ => 0)))] := hD
  refine va_putF (D := D) (ci := 3) (v := .ref q26) (ty := (.array .int)) (C := RX3) (T := TX3) (N := 10) hx hb hts iX3 tyX3 tyX3_ok nmX3 hown hK hP hD hS 0 rfl rfl 4 (by decide) (hts _ (mC qf_X3_18)) (fun _ h9 => h9) rfl hin rfl (by decide +kernel) rfl rfl (Nat.le_of_ble_eq_true rfl) dX3_init_28 (fun H locs hP hD hS => ?_)
  have hP : va_P D vwCl [(h, .inr (3, [.int 0, .int 0, .ref q8, .ref q17, .ref q26, .null, .null, .null, .null, .null])), (q8, .inl (cy 0, 200, .inl (fun _ => 0))), (q17, .inl (cy 0, 200, .inl (fun _ => 0))), (q26, .inl (cy 0, 200, .inl (fun _ => 0)))] H := hP
  have hD : va_D A [(h, .inr (3, [.int 0, .int 0, .ref q8, .ref q17, .ref q26, .null, .null, .null, .null, .null])), (q8, .inl (cy 0, 200, .inl (fun _ => 0))), (q17, .inl (cy 0, 200, .inl (fun _ => 0))), (q26, .inl (cy 0, 200, .inl (fun _ => 0)))] := hD
  refine lv_aload_n hx hb dX3_init_31 rfl (lv_at hl 0 rfl) ?_
  refine lv_sipush (v := 200) hx hb dX3_init_32 (by decide) ?_
  refine n_i (N' := 200) hx hb (hts _ (mC qa_int)) hK hP hD hS hA (by decide) (by decide) (by decide) (Nat.le_of_ble_eq_true rfl) (Nat.le_of_ble_eq_true rfl) dX3_init_35 (fun q35 H hP hD hS => ?_)
  have hP : va_P D vwCl [(h, .inr (3, [.int 0, .int 0, .ref q8, .ref q17, .ref q26, .null, .null, .null, .null, .null])), (q8, .inl (cy 0, 200, .inl (fun _ => 0))), (q17, .inl (cy 0, 200, .inl (fun _ => 0))), (q26, .inl (cy 0, 200, .inl (fun _ => 0))), (q35, .inl (cy 0, 200, .inl (fun _ => 0)))] H := hP
  have hD : va_D A [(h, .inr (3, [.int 0, .int 0, .ref q8, .ref q17, .ref q26, .null, .null, .null, .null, .null])), (q8, .inl (cy 0, 200, .inl (fun _ => 0))), (q17, .inl (cy 0, 200, .inl (fun _ => 0))), (q26, .inl (cy 0, 200, .inl (fun _ => 0))), (q35, .inl (cy 0, 200, .inl (fun _ => 0)))] := hD
  refine va_putF (D := D) (ci := 3) (v := .ref q35) (ty := (.array .int)) (C := RX3) (T := TX3) (N := 10) hx hb hts iX3 tyX3 tyX3_ok nmX3 hown hK hP hD hS 0 rfl rfl 5 (by decide) (hts _ (mC qf_X3_21)) (fun _ h9 => h9) rfl hin rfl (by decide +kernel) rfl rfl (Nat.le_of_ble_eq_true rfl) dX3_init_37 (fun H locs hP hD hS => ?_)
  have hP : va_P D vwCl [(h, .inr (3, [.int 0, .int 0, .ref q8, .ref q17, .ref q26, .ref q35, .null, .null, .null, .null])), (q8, .inl (cy 0, 200, .inl (fun _ => 0))), (q17, .inl (cy 0, 200, .inl (fun _ => 0))), (q26, .inl (cy 0, 200, .inl (fun _ => 0))), (q35, .inl (cy 0, 200, .inl (fun _ => 0)))] H := hP
  have hD : va_D A [(h, .inr (3, [.int 0, .int 0, .ref q8, .ref q17, .ref q26, .ref q35, .null, .null, .null, .null])), (q8, .inl (cy 0, 200, .inl (fun _ => 0))), (q17, .inl (cy 0, 200, .inl (fun _ => 0))), (q26, .inl (cy 0, 200, .inl (fun _ => 0))), (q35, .inl (cy 0, 200, .inl (fun _ => 0)))] := hD
  refine lv_aload_n hx hb dX3_init_40 rfl (lv_at hl 0 rfl) ?_
  refine lv_sipush (v := 200) hx hb dX3_init_41 (by decide) ?_
  refine n_i (N' := 200) hx hb (hts _ (mC qa_int)) hK hP hD hS hA (by decide) (by decide) (by decide) (Nat.le_of_ble_eq_true rfl) (Nat.le_of_ble_eq_true rfl) dX3_init_44 (fun q44 H hP hD hS => ?_)
  have hP : va_P D vwCl [(h, .inr (3, [.int 0, .int 0, .ref q8, .ref q17, .ref q26, .ref q35, .null, .null, .null, .null])), (q8, .inl (cy 0, 200, .inl (fun _ => 0))), (q17, .inl (cy 0, 200, .inl (fun _ => 0))), (q26, .inl (cy 0, 200, .inl (fun _ => 0))), (q35, .inl (cy 0, 200, .inl (fun _ => 0))), (q44, .inl (cy 0, 200, .inl (fun _ => 0)))] H := hP
  have hD : va_D A [(h, .inr (3, [.int 0, .int 0, .ref q8, .ref q17, .ref q26, .ref q35, .null, .null, .null, .null])), (q8, .inl (cy 0, 200, .inl (fun _ => 0))), (q17, .inl (cy 0, 200, .inl (fun _ => 0))), (q26, .inl (cy 0, 200, .inl (fun _ => 0))), (q35, .inl (cy 0, 200, .inl (fun _ => 0))), (q44, .inl (cy 0, 200, .inl (fun _ => 0)))] := hD
  refine va_putF (D := D) (ci := 3) (v := .ref q44) (ty := (.array .int)) (C := RX3) (T := TX3) (N := 10) hx hb hts iX3 tyX3 tyX3_ok nmX3 hown hK hP hD hS 0 rfl rfl 6 (by decide) (hts _ (mC qf_X3_24)) (fun _ h9 => h9) rfl hin rfl (by decide +kernel) rfl rfl (Nat.le_of_ble_eq_true rfl) dX3_init_46 (fun H locs hP hD hS => ?_)
  have hP : va_P D vwCl [(h, .inr (3, [.int 0, .int 0, .ref q8, .ref q17, .ref q26, .ref q35, .ref q44, .null, .null, .null])), (q8, .inl (cy 0, 200, .inl (fun _ => 0))), (q17, .inl (cy 0, 200, .inl (fun _ => 0))), (q26, .inl (cy 0, 200, .inl (fun _ => 0))), (q35, .inl (cy 0, 200, .inl (fun _ => 0))), (q44, .inl (cy 0, 200, .inl (fun _ => 0)))] H := hP
  have hD : va_D A [(h, .inr (3, [.int 0, .int 0, .ref q8, .ref q17, .ref q26, .ref q35, .ref q44, .null, .null, .null])), (q8, .inl (cy 0, 200, .inl (fun _ => 0))), (q17, .inl (cy 0, 200, .inl (fun _ => 0))), (q26, .inl (cy 0, 200, .inl (fun _ => 0))), (q35, .inl (cy 0, 200, .inl (fun _ => 0))), (q44, .inl (cy 0, 200, .inl (fun _ => 0)))] := hD
  refine lv_aload_n hx hb dX3_init_49 rfl (lv_at hl 0 rfl) ?_
  refine lv_sipush (v := 200) hx hb dX3_init_50 (by decide) ?_
  refine n_i (N' := 200) hx hb (hts _ (mC qa_int)) hK hP hD hS hA (by decide) (by decide) (by decide) (Nat.le_of_ble_eq_true rfl) (Nat.le_of_ble_eq_true rfl) dX3_init_53 (fun q53 H hP hD hS => ?_)
  have hP : va_P D vwCl [(h, .inr (3, [.int 0, .int 0, .ref q8, .ref q17, .ref q26, .ref q35, .ref q44, .null, .null, .null])), (q8, .inl (cy 0, 200, .inl (fun _ => 0))), (q17, .inl (cy 0, 200, .inl (fun _ => 0))), (q26, .inl (cy 0, 200, .inl (fun _ => 0))), (q35, .inl (cy 0, 200, .inl (fun _ => 0))), (q44, .inl (cy 0, 200, .inl (fun _ => 0))), (q53, .inl (cy 0, 200, .inl (fun _ => 0)))] H := hP
  have hD : va_D A [(h, .inr (3, [.int 0, .int 0, .ref q8, .ref q17, .ref q26, .ref q35, .ref q44, .null, .null, .null])), (q8, .inl (cy 0, 200, .inl (fun _ => 0))), (q17, .inl (cy 0, 200, .inl (fun _ => 0))), (q26, .inl (cy 0, 200, .inl (fun _ => 0))), (q35, .inl (cy 0, 200, .inl (fun _ => 0))), (q44, .inl (cy 0, 200, .inl (fun _ => 0))), (q53, .inl (cy 0, 200, .inl (fun _ => 0)))] := hD
  refine va_putF (D := D) (ci := 3) (v := .ref q53) (ty := (.array .int)) (C := RX3) (T := TX3) (N := 10) hx hb hts iX3 tyX3 tyX3_ok nmX3 hown hK hP hD hS 0 rfl rfl 7 (by decide) (hts _ (mC qf_X3_27)) (fun _ h9 => h9) rfl hin rfl (by decide +kernel) rfl rfl (Nat.le_of_ble_eq_true rfl) dX3_init_55 (fun H locs hP hD hS => ?_)
  have hP : va_P D vwCl [(h, .inr (3, [.int 0, .int 0, .ref q8, .ref q17, .ref q26, .ref q35, .ref q44, .ref q53, .null, .null])), (q8, .inl (cy 0, 200, .inl (fun _ => 0))), (q17, .inl (cy 0, 200, .inl (fun _ => 0))), (q26, .inl (cy 0, 200, .inl (fun _ => 0))), (q35, .inl (cy 0, 200, .inl (fun _ => 0))), (q44, .inl (cy 0, 200, .inl (fun _ => 0))), (q53, .inl (cy 0, 200, .inl (fun _ => 0)))] H := hP
  have hD : va_D A [(h, .inr (3, [.int 0, .int 0, .ref q8, .ref q17, .ref q26, .ref q35, .ref q44, .ref q53, .null, .null])), (q8, .inl (cy 0, 200, .inl (fun _ => 0))), (q17, .inl (cy 0, 200, .inl (fun _ => 0))), (q26, .inl (cy 0, 200, .inl (fun _ => 0))), (q35, .inl (cy 0, 200, .inl (fun _ => 0))), (q44, .inl (cy 0, 200, .inl (fun _ => 0))), (q53, .inl (cy 0, 200, .inl (fun _ => 0)))] := hD
  refine lv_aload_n hx hb dX3_init_58 rfl (lv_at hl 0 rfl) ?_
  refine lv_bipush (v := 20) hx hb dX3_init_59 (by decide) ?_
  refine n_i (N' := 20) hx hb (hts _ (mC qa_int)) hK hP hD hS hA (by decide) (by decide) (by decide) (Nat.le_of_ble_eq_true rfl) (Nat.le_of_ble_eq_true rfl) dX3_init_61 (fun q61 H hP hD hS => ?_)
  have hP : va_P D vwCl [(h, .inr (3, [.int 0, .int 0, .ref q8, .ref q17, .ref q26, .ref q35, .ref q44, .ref q53, .null, .null])), (q8, .inl (cy 0, 200, .inl (fun _ => 0))), (q17, .inl (cy 0, 200, .inl (fun _ => 0))), (q26, .inl (cy 0, 200, .inl (fun _ => 0))), (q35, .inl (cy 0, 200, .inl (fun _ => 0))), (q44, .inl (cy 0, 200, .inl (fun _ => 0))), (q53, .inl (cy 0, 200, .inl (fun _ => 0))), (q61, .inl (cy 0, 20, .inl (fun _ => 0)))] H := hP
  have hD : va_D A [(h, .inr (3, [.int 0, .int 0, .ref q8, .ref q17, .ref q26, .ref q35, .ref q44, .ref q53, .null, .null])), (q8, .inl (cy 0, 200, .inl (fun _ => 0))), (q17, .inl (cy 0, 200, .inl (fun _ => 0))), (q26, .inl (cy 0, 200, .inl (fun _ => 0))), (q35, .inl (cy 0, 200, .inl (fun _ => 0))), (q44, .inl (cy 0, 200, .inl (fun _ => 0))), (q53, .inl (cy 0, 200, .inl (fun _ => 0))), (q61, .inl (cy 0, 20, .inl (fun _ => 0)))] := hD
  refine va_putF (D := D) (ci := 3) (v := .ref q61) (ty := (.array .int)) (C := RX3) (T := TX3) (N := 10) hx hb hts iX3 tyX3 tyX3_ok nmX3 hown hK hP hD hS 0 rfl rfl 8 (by decide) (hts _ (mC qf_X3_30)) (fun _ h9 => h9) rfl hin rfl (by decide +kernel) rfl rfl (Nat.le_of_ble_eq_true rfl) dX3_init_63 (fun H locs hP hD hS => ?_)
  have hP : va_P D vwCl [(h, .inr (3, [.int 0, .int 0, .ref q8, .ref q17, .ref q26, .ref q35, .ref q44, .ref q53, .ref q61, .null])), (q8, .inl (cy 0, 200, .inl (fun _ => 0))), (q17, .inl (cy 0, 200, .inl (fun _ => 0))), (q26, .inl (cy 0, 200, .inl (fun _ => 0))), (q35, .inl (cy 0, 200, .inl (fun _ => 0))), (q44, .inl (cy 0, 200, .inl (fun _ => 0))), (q53, .inl (cy 0, 200, .inl (fun _ => 0))), (q61, .inl (cy 0, 20, .inl (fun _ => 0)))] H := hP
  have hD : va_D A [(h, .inr (3, [.int 0, .int 0, .ref q8, .ref q17, .ref q26, .ref q35, .ref q44, .ref q53, .ref q61, .null])), (q8, .inl (cy 0, 200, .inl (fun _ => 0))), (q17, .inl (cy 0, 200, .inl (fun _ => 0))), (q26, .inl (cy 0, 200, .inl (fun _ => 0))), (q35, .inl (cy 0, 200, .inl (fun _ => 0))), (q44, .inl (cy 0, 200, .inl (fun _ => 0))), (q53, .inl (cy 0, 200, .inl (fun _ => 0))), (q61, .inl (cy 0, 20, .inl (fun _ => 0)))] := hD
  refine lv_aload_n hx hb dX3_init_66 rfl (lv_at hl 0 rfl) ?_
  refine lv_bipush (v := 20) hx hb dX3_init_67 (by decide) ?_
  refine n_i (N' := 20) hx hb (hts _ (mC qa_int)) hK hP hD hS hA (by decide) (by decide) (by decide) (Nat.le_of_ble_eq_true rfl) (Nat.le_of_ble_eq_true rfl) dX3_init_69 (fun q69 H hP hD hS => ?_)
  have hP : va_P D vwCl [(h, .inr (3, [.int 0, .int 0, .ref q8, .ref q17, .ref q26, .ref q35, .ref q44, .ref q53, .ref q61, .null])), (q8, .inl (cy 0, 200, .inl (fun _ => 0))), (q17, .inl (cy 0, 200, .inl (fun _ => 0))), (q26, .inl (cy 0, 200, .inl (fun _ => 0))), (q35, .inl (cy 0, 200, .inl (fun _ => 0))), (q44, .inl (cy 0, 200, .inl (fun _ => 0))), (q53, .inl (cy 0, 200, .inl (fun _ => 0))), (q61, .inl (cy 0, 20, .inl (fun _ => 0))), (q69, .inl (cy 0, 20, .inl (fun _ => 0)))] H := hP
  have hD : va_D A [(h, .inr (3, [.int 0, .int 0, .ref q8, .ref q17, .ref q26, .ref q35, .ref q44, .ref q53, .ref q61, .null])), (q8, .inl (cy 0, 200, .inl (fun _ => 0))), (q17, .inl (cy 0, 200, .inl (fun _ => 0))), (q26, .inl (cy 0, 200, .inl (fun _ => 0))), (q35, .inl (cy 0, 200, .inl (fun _ => 0))), (q44, .inl (cy 0, 200, .inl (fun _ => 0))), (q53, .inl (cy 0, 200, .inl (fun _ => 0))), (q61, .inl (cy 0, 20, .inl (fun _ => 0))), (q69, .inl (cy 0, 20, .inl (fun _ => 0)))] := hD
  refine va_putF (D := D) (ci := 3) (v := .ref q69) (ty := (.array .int)) (C := RX3) (T := TX3) (N := 10) hx hb hts iX3 tyX3 tyX3_ok nmX3 hown hK hP hD hS 0 rfl rfl 9 (by decide) (hts _ (mC qf_X3_33)) (fun _ h9 => h9) rfl hin rfl (by decide +kernel) rfl rfl (Nat.le_of_ble_eq_true rfl) dX3_init_71 (fun H locs hP hD hS => ?_)
  have hP : va_P D vwCl [(h, .inr (3, [.int 0, .int 0, .ref q8, .ref q17, .ref q26, .ref q35, .ref q44, .ref q53, .ref q61, .ref q69])), (q8, .inl (cy 0, 200, .inl (fun _ => 0))), (q17, .inl (cy 0, 200, .inl (fun _ => 0))), (q26, .inl (cy 0, 200, .inl (fun _ => 0))), (q35, .inl (cy 0, 200, .inl (fun _ => 0))), (q44, .inl (cy 0, 200, .inl (fun _ => 0))), (q53, .inl (cy 0, 200, .inl (fun _ => 0))), (q61, .inl (cy 0, 20, .inl (fun _ => 0))), (q69, .inl (cy 0, 20, .inl (fun _ => 0)))] H := hP
  have hD : va_D A [(h, .inr (3, [.int 0, .int 0, .ref q8, .ref q17, .ref q26, .ref q35, .ref q44, .ref q53, .ref q61, .ref q69])), (q8, .inl (cy 0, 200, .inl (fun _ => 0))), (q17, .inl (cy 0, 200, .inl (fun _ => 0))), (q26, .inl (cy 0, 200, .inl (fun _ => 0))), (q35, .inl (cy 0, 200, .inl (fun _ => 0))), (q44, .inl (cy 0, 200, .inl (fun _ => 0))), (q53, .inl (cy 0, 200, .inl (fun _ => 0))), (q61, .inl (cy 0, 20, .inl (fun _ => 0))), (q69, .inl (cy 0, 20, .inl (fun _ => 0)))] := hD
  refine W.widen (k := 8) (n := 1240) (Nat.le_of_ble_eq_true rfl) (Nat.le_of_ble_eq_true rfl) ?_
  exact W.vret hx hb hr (fun t ht hW => ⟨⟨(fun j : Nat => match j with | 0 => h | 3 => q8 | 4 => q17 | 5 => q26 | 6 => q35 | 7 => q44 | 8 => q53 | 9 => q61 | 10 => q69 | _ => 0), rfl, rfl, by rw [ht]; exact hP, va_K.moved hW.alike hK, hD⟩, hS.F ht⟩) hS.2.2 dX3_init_74
abbrev rm_X7_init : Room := { frames := 1, cells := 2, slots := 123, locals := 12 }
set_option maxHeartbeats 40000000 in
set_option maxRecDepth 100000 in
theorem c_X7_init (l : Launch) (D : va_G) (cy : Nat → Nat) (h : Nat) : CQ l yX7_init wsX7_init rm_X7_init D cy [.ref h] [(h, .inr (7, [.int 0, .int 0, .int 0, .int 0, .int 0, .null, .int 0, .null]))] 2 123 (QN D cy (fun a : Nat → Nat => a 0 = h) (fun a => W_T cy a zM9)) := by
  refine CQ_of (cc := cX7_init) (maxL := 1) (ret := none) (by decide) rfl (Nat.le_of_ble_eq_true rfl) (fun p e s m args below meth c A ls hx hb hr hml hlocks hnm hown hts hA hK hN hP hD hS hl => ?_)
  have hown : s.vm.findClass RX7 = some m.cls := hown
  have hin : meth.name = "<init>" := hnm
  have hl : lv_has ls 1 [(0, .ref h)] := hl
  have hC : CallFix p m c cX7_init 1 s args wsX7_init RX7 := ⟨hx, hb, hml, hown, hts⟩
  refine lv_aload_n hx hb dX7_init_0 rfl (lv_at hl 0 rfl) ?_
  refine W.objInit hx hb hown (hts _ (mC qm_X7_1)) (hts _ (mC qi_objectInit)) (hts _ (mC qc_objectInit)) rfl (hl.1.trans hml.symm) rfl dX7_init_1 (Nat.le_of_ble_eq_true rfl) (Nat.le_of_ble_eq_true rfl) ?_
  refine W.eq (g2 := F0 m 4 ls []) rfl ?_
  have iX7 : ∀ w ∈ wsX70, w ∈ wsX7_init := fun w h => mC (iA_X7 w h)
  refine lv_aload_n hx hb dX7_init_4 rfl (lv_at hl 0 rfl) ?_
  refine lv_iconst (v := 3) hx hb dX7_init_5 (by decide) ?_
  refine n_i (N' := 3) hx hb (hts _ (mC qa_int)) hK hP hD hS hA (by decide) (by decide) (by decide) (Nat.le_of_ble_eq_true rfl) (Nat.le_of_ble_eq_true rfl) dX7_init_6 (fun q6 H hP hD hS => ?_)
  have hP : va_P D vwCl [(h, .inr (7, [.int 0, .int 0, .int 0, .int 0, .int 0, .null, .int 0, .null])), (q6, .inl (cy 0, 3, .inl (fun _ => 0)))] H := hP
  have hD : va_D A [(h, .inr (7, [.int 0, .int 0, .int 0, .int 0, .int 0, .null, .int 0, .null])), (q6, .inl (cy 0, 3, .inl (fun _ => 0)))] := hD
  refine va_putF (D := D) (ci := 7) (v := .ref q6) (ty := (.array .int)) (C := RX7) (T := TX7) (N := 8) hx hb hts iX7 tyX7 tyX7_ok nmX7 hown hK hP hD hS 0 rfl rfl 5 (by decide) (hts _ (mC qf_X7_9)) (fun _ h9 => h9) rfl hin rfl (by decide +kernel) rfl rfl (Nat.le_of_ble_eq_true rfl) dX7_init_8 (fun H locs hP hD hS => ?_)
  have hP : va_P D vwCl [(h, .inr (7, [.int 0, .int 0, .int 0, .int 0, .int 0, .ref q6, .int 0, .null])), (q6, .inl (cy 0, 3, .inl (fun _ => 0)))] H := hP
  have hD : va_D A [(h, .inr (7, [.int 0, .int 0, .int 0, .int 0, .int 0, .ref q6, .int 0, .null])), (q6, .inl (cy 0, 3, .inl (fun _ => 0)))] := hD
  refine lv_aload_n hx hb dX7_init_11 rfl (lv_at hl 0 rfl) ?_
  refine lv_bipush (v := 120) hx hb dX7_init_12 (by decide) ?_
  refine n_c (N' := 120) hx hb (hts _ (mC qa_char)) hK hP hD hS hA (by decide) (by decide) (by decide) (Nat.le_of_ble_eq_true rfl) (Nat.le_of_ble_eq_true rfl) dX7_init_14 (fun q14 H hP hD hS => ?_)
  have hP : va_P D vwCl [(h, .inr (7, [.int 0, .int 0, .int 0, .int 0, .int 0, .ref q6, .int 0, .null])), (q6, .inl (cy 0, 3, .inl (fun _ => 0))), (q14, .inl (cy 2, 120, .inl (fun _ => 0)))] H := hP
  have hD : va_D A [(h, .inr (7, [.int 0, .int 0, .int 0, .int 0, .int 0, .ref q6, .int 0, .null])), (q6, .inl (cy 0, 3, .inl (fun _ => 0))), (q14, .inl (cy 2, 120, .inl (fun _ => 0)))] := hD
  refine va_putF (D := D) (ci := 7) (v := .ref q14) (ty := (.array .char)) (C := RX7) (T := TX7) (N := 8) hx hb hts iX7 tyX7 tyX7_ok nmX7 hown hK hP hD hS 0 rfl rfl 7 (by decide) (hts _ (mC qf_X7_13)) (fun _ h9 => h9) rfl hin rfl (by decide +kernel) rfl rfl (Nat.le_of_ble_eq_true rfl) dX7_init_16 (fun H locs hP hD hS => ?_)
  have hP : va_P D vwCl [(h, .inr (7, [.int 0, .int 0, .int 0, .int 0, .int 0, .ref q6, .int 0, .ref q14])), (q6, .inl (cy 0, 3, .inl (fun _ => 0))), (q14, .inl (cy 2, 120, .inl (fun _ => 0)))] H := hP
  have hD : va_D A [(h, .inr (7, [.int 0, .int 0, .int 0, .int 0, .int 0, .ref q6, .int 0, .ref q14])), (q6, .inl (cy 0, 3, .inl (fun _ => 0))), (q14, .inl (cy 2, 120, .inl (fun _ => 0)))] := hD
  refine W.widen (k := 2) (n := 123) (Nat.le_of_ble_eq_true rfl) (Nat.le_of_ble_eq_true rfl) ?_
  exact W.vret hx hb hr (fun t ht hW => ⟨⟨(fun j : Nat => match j with | 0 => h | 6 => q6 | 8 => q14 | _ => 0), rfl, rfl, by rw [ht]; exact hP, va_K.moved hW.alike hK, hD⟩, hS.F ht⟩) hS.2.2 dX7_init_19
