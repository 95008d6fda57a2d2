abbrev rm_X8_isWithin : Room := { frames := 0, cells := 0, slots := 0, locals := 0 }
set_option maxHeartbeats 40000000 in
set_option maxRecDepth 100000 in
theorem c_X8_isWithin (l : Launch) (D : va_G) (cy : Nat → Nat)  (x0 : Int32) (x1 : Int32) (x2 : Int32) (r' : Int32) (hE : f_X8_isWithin x0 x1 x2 = some r') : CI l yX8_isWithin wsX8_isWithin rm_X8_isWithin D cy [.int x0, .int x1, .int x2] ([] : va_W) 0 0 r' ([] : va_W) := by
  refine CQ_of (cc := cX8_isWithin) (maxL := 3) (ret := (some .boolean)) (by decide) rfl (Nat.le_of_ble_eq_true rfl) (fun p e s m args below meth c A ls hx hb hr hml hlocks hnm hown hts hA hK hN hP hD hS hl => ?_)
  have hown : s.vm.findClass RX8 = some m.cls := hown
  have hl : lv_has ls 3 [(0, .int x0), (1, .int x1), (2, .int x2)] := hl
  unfold f_X8_isWithin at hE
  refine lv_iload_n hx hb dX8_isWithin_0 rfl (lv_at hl 0 rfl) ?_
  refine lv_iload_n hx hb dX8_isWithin_1 rfl (lv_at hl 1 rfl) ?_
  refine lv_icmp_lt (tgt := 14) hx hb dX8_isWithin_2 (by decide) (fun c_1 => ?_) (fun c_1 => ?_)
  · replace hE := it_t hE c_1
    refine lv_iconst (v := 0) hx hb dX8_isWithin_14 (by decide) ?_
    have hE := Option.some.inj hE
    exact ez hx hb hr (by decide) hlocks hK hP hD hS hE rfl dX8_isWithin_15
  · replace hE := it_f hE c_1
    refine lv_iload_n hx hb dX8_isWithin_5 rfl (lv_at hl 0 rfl) ?_
    refine lv_iload_n hx hb dX8_isWithin_6 rfl (lv_at hl 2 rfl) ?_
    refine lv_icmp_gt (tgt := 14) hx hb dX8_isWithin_7 (by decide) (fun c_2 => ?_) (fun c_2 => ?_)
    · replace hE := it_t hE c_2
      refine lv_iconst (v := 0) hx hb dX8_isWithin_14 (by decide) ?_
      have hE := Option.some.inj hE
      exact ez hx hb hr (by decide) hlocks hK hP hD hS hE rfl dX8_isWithin_15
    · replace hE := it_f hE c_2
      refine lv_iconst (v := 1) hx hb dX8_isWithin_10 (by decide) ?_
      refine lv_goto (tgt := 15) hx hb dX8_isWithin_11 (by decide) ?_
      have hE := Option.some.inj hE
      exact ez hx hb hr (by decide) hlocks hK hP hD hS hE rfl dX8_isWithin_15
abbrev rm_X8_valueAt : Room := { frames := 0, cells := 0, slots := 0, locals := 0 }
set_option maxHeartbeats 40000000 in
set_option maxRecDepth 100000 in
theorem c_X8_valueAt (l : Launch) (D : va_G) (cy : Nat → Nat) (b0 : Nat) (x1 : Int32) (z0 : Nat) (ig0 : (Nat → Int32)) (r' : Int32) (hE : f_X8_valueAt x1 z0 ig0 = some r') : CI l yX8_valueAt wsX8_valueAt rm_X8_valueAt D cy [.ref b0, .int x1] [(b0, .inl (cy 0, z0, .inl ig0))] 0 0 r' [(b0, .inl (cy 0, z0, .inl ig0))] := by
  refine CQ_of (cc := cX8_valueAt) (maxL := 2) (ret := (some .int)) (by decide) rfl (Nat.le_of_ble_eq_true rfl) (fun p e s m args below meth c A ls hx hb hr hml hlocks hnm hown hts hA hK hN hP hD hS hl => ?_)
  have hown : s.vm.findClass RX8 = some m.cls := hown
  have hl : lv_has ls 2 [(0, .ref b0), (1, .int x1)] := hl
  unfold f_X8_valueAt at hE
  refine lv_iload_n hx hb dX8_valueAt_0 rfl (lv_at hl 1 rfl) ?_
  refine lv_if_lt (tgt := 16) hx hb dX8_valueAt_1 (by decide) (fun c_1 => ?_) (fun c_1 => ?_)
  · replace hE := it_t hE c_1
    refine lv_iconst (v := 0) hx hb dX8_valueAt_16 (by decide) ?_
    have hE := Option.some.inj hE
    exact ei hx hb hr hlocks hK hP hD hS hE rfl dX8_valueAt_17
  · replace hE := it_f hE c_1
    refine lv_iload_n hx hb dX8_valueAt_4 rfl (lv_at hl 1 rfl) ?_
    refine lv_aload_n hx hb dX8_valueAt_5 rfl (lv_at hl 0 rfl) ?_
    refine va_alen hx hb hK hP 0 0 rfl rfl (v := (Int32.ofNat z0)) rfl dX8_valueAt_6 ?_
    refine lv_icmp_ge (tgt := 16) hx hb dX8_valueAt_7 (by decide) (fun c_2 => ?_) (fun c_2 => ?_)
    · replace hE := it_t hE c_2
      refine lv_iconst (v := 0) hx hb dX8_valueAt_16 (by decide) ?_
      have hE := Option.some.inj hE
      exact ei hx hb hr hlocks hK hP hD hS hE rfl dX8_valueAt_17
    · replace hE := it_f hE c_2
      refine lv_aload_n hx hb dX8_valueAt_10 rfl (lv_at hl 0 rfl) ?_
      refine lv_iload_n hx hb dX8_valueAt_11 rfl (lv_at hl 1 rfl) ?_
      obtain ⟨g_3, hE⟩ := gi_el hE
      refine va_iald hx hb hK hP 0 0 rfl rfl g_3 dX8_valueAt_12 ?_
      refine lv_goto (tgt := 17) hx hb dX8_valueAt_13 (by decide) ?_
      have hE := Option.some.inj hE
      exact ei hx hb hr hlocks hK hP hD hS hE rfl dX8_valueAt_17
abbrev rm_X8_replace : Room := { frames := 0, cells := 0, slots := 0, locals := 0 }
set_option maxHeartbeats 40000000 in
set_option maxRecDepth 100000 in
theorem c_X8_replace (l : Launch) (D : va_G) (cy : Nat → Nat) (b0 : Nat) (x1 : Int32) (x2 : Int32) (z0 : Nat) (ig0 : (Nat → Int32)) (r' : Int32) (g0' : (Nat → Int32)) (hE : f_X8_replace x1 x2 z0 ig0 = some (r', g0')) : CI l yX8_replace wsX8_replace rm_X8_replace D cy [.ref b0, .int x1, .int x2] [(b0, .inl (cy 0, z0, .inl ig0))] 0 0 r' [(b0, .inl (cy 0, z0, .inl g0'))] := by
  refine CQ_of (cc := cX8_replace) (maxL := 4) (ret := (some .int)) (by decide) rfl (Nat.le_of_ble_eq_true rfl) (fun p e s m args below meth c A ls hx hb hr hml hlocks hnm hown hts hA hK hN hP hD hS hl => ?_)
  have hown : s.vm.findClass RX8 = some m.cls := hown
  have hl : lv_has ls 4 [(0, .ref b0), (1, .int x1), (2, .int x2)] := hl
  unfold f_X8_replace at hE
  refine lv_iload_n hx hb dX8_replace_0 rfl (lv_at hl 1 rfl) ?_
  refine lv_if_lt (tgt := 10) hx hb dX8_replace_1 (by decide) (fun c_1 => ?_) (fun c_1 => ?_)
  · replace hE := it_t hE c_1
    refine lv_iconst (v := (-1)) hx hb dX8_replace_10 (by decide) ?_
    have hE := Option.some.inj hE
    obtain ⟨q0, q1⟩ := Prod.mk.inj hE
    exact ei hx hb hr hlocks hK hP hD hS q0 (by rw [q1]) dX8_replace_11
  · replace hE := it_f hE c_1
    refine lv_iload_n hx hb dX8_replace_4 rfl (lv_at hl 1 rfl) ?_
    refine lv_aload_n hx hb dX8_replace_5 rfl (lv_at hl 0 rfl) ?_
    refine va_alen hx hb hK hP 0 0 rfl rfl (v := (Int32.ofNat z0)) rfl dX8_replace_6 ?_
    refine lv_icmp_lt (tgt := 12) hx hb dX8_replace_7 (by decide) (fun c_2 => ?_) (fun c_2 => ?_)
    · replace hE := it_t hE c_2
      refine lv_aload_n hx hb dX8_replace_12 rfl (lv_at hl 0 rfl) ?_
      refine lv_iload_n hx hb dX8_replace_13 rfl (lv_at hl 1 rfl) ?_
      obtain ⟨g_3, hE⟩ := gi_el hE
      refine va_iald hx hb hK hP 0 0 rfl rfl g_3 dX8_replace_14 ?_
      obtain ⟨x3_4, e_x3_4, hE⟩ := lt_el hE
      refine s_nm e_x3_4 ?_
      refine lv_istore_n (lv' := [(3, .int x3_4), (0, .ref b0), (1, .int x1), (2, .int x2)]) hx hb dX8_replace_15 rfl hl (by decide) rfl (fun ls hl => ?_)
      refine lv_aload_n hx hb dX8_replace_16 rfl (lv_at hl 1 rfl) ?_
      refine lv_iload_n hx hb dX8_replace_17 rfl (lv_at hl 2 rfl) ?_
      refine lv_iload_n hx hb dX8_replace_18 rfl (lv_at hl 3 rfl) ?_
      obtain ⟨g_6, hE⟩ := gi_el hE
      obtain ⟨g0_5, e_g0_5, hE⟩ := lt_el hE
      refine s_ia (ws1 := [(b0, .inl (cy 0, z0, .inl g0_5))]) hx hb hK hP hD hS 0 rfl g_6 (by rw [e_g0_5]; rfl) dX8_replace_19 (fun H locs hP hD hS => ?_)
      refine lv_iload_n hx hb dX8_replace_20 rfl (lv_at hl 0 rfl) ?_
      have hE := Option.some.inj hE
      obtain ⟨q0, q1⟩ := Prod.mk.inj hE
      exact ei hx hb hr hlocks hK hP hD hS q0 (by rw [q1]) dX8_replace_21
    · replace hE := it_f hE c_2
      refine lv_iconst (v := (-1)) hx hb dX8_replace_10 (by decide) ?_
      have hE := Option.some.inj hE
      obtain ⟨q0, q1⟩ := Prod.mk.inj hE
      exact ei hx hb hr hlocks hK hP hD hS q0 (by rw [q1]) dX8_replace_11
set_option maxHeartbeats 40000000 in
set_option maxRecDepth 100000 in
theorem c_X8_valueAt_st (l : Launch) (D : va_G) (cy : Nat → Nat) (j : Nat) (hj : j < 3) (x1 : Int32) (r' : Int32) (hE : f_X8_valueAt x1 8 (stV j) = some r') : CI l yX8_valueAt wsX8_valueAt rm_X8_valueAt D cy [.ref (cy (10 + j)), .int x1] [] 0 0 r' [] := by
  refine CQ_of (cc := cX8_valueAt) (maxL := 2) (ret := (some .int)) (by decide) rfl (Nat.le_of_ble_eq_true rfl) (fun p e s m args below meth c A ls hx hb hr hml hlocks hnm hown hts hA hK hN hP hD hS hl => ?_)
  have hown : s.vm.findClass RX8 = some m.cls := hown
  have hl : lv_has ls 2 [(0, .ref (cy (10 + j))), (1, .int x1)] := hl
  have hT := (hN.2.2.1 j hj).2
  unfold f_X8_valueAt at hE
  refine lv_iload_n hx hb dX8_valueAt_0 rfl (lv_at hl 1 rfl) ?_
  refine lv_if_lt (tgt := 16) hx hb dX8_valueAt_1 (by decide) (fun c_1 => ?_) (fun c_1 => ?_)
  · replace hE := it_t hE c_1
    refine lv_iconst (v := 0) hx hb dX8_valueAt_16 (by decide) ?_
    have hE := Option.some.inj hE
    exact ei hx hb hr hlocks hK hP hD hS hE rfl dX8_valueAt_17
  · replace hE := it_f hE c_1
    refine lv_iload_n hx hb dX8_valueAt_4 rfl (lv_at hl 1 rfl) ?_
    refine lv_aload_n hx hb dX8_valueAt_5 rfl (lv_at hl 0 rfl) ?_
    refine va_tlen hx hb hT hS (v := (Int32.ofNat 8)) rfl dX8_valueAt_6 ?_
    refine lv_icmp_ge (tgt := 16) hx hb dX8_valueAt_7 (by decide) (fun c_2 => ?_) (fun c_2 => ?_)
    · replace hE := it_t hE c_2
      refine lv_iconst (v := 0) hx hb dX8_valueAt_16 (by decide) ?_
      have hE := Option.some.inj hE
      exact ei hx hb hr hlocks hK hP hD hS hE rfl dX8_valueAt_17
    · replace hE := it_f hE c_2
      refine lv_aload_n hx hb dX8_valueAt_10 rfl (lv_at hl 0 rfl) ?_
      refine lv_iload_n hx hb dX8_valueAt_11 rfl (lv_at hl 1 rfl) ?_
      obtain ⟨g_3, hE⟩ := gi_el hE
      refine va_ti hx hb hT hS g_3 rfl dX8_valueAt_12 ?_
      refine lv_goto (tgt := 17) hx hb dX8_valueAt_13 (by decide) ?_
      have hE := Option.some.inj hE
      exact ei hx hb hr hlocks hK hP hD hS hE rfl dX8_valueAt_17
