abbrev rm_X7_start : Room := { frames := 0, cells := 0, slots := 0, locals := 0 }
set_option maxHeartbeats 40000000 in
set_option maxRecDepth 100000 in
theorem c_X7_start (l : Launch) (D : va_G) (cy : Nat → Nat) (aT : Nat → Nat) (imT : Mem) (mT' : Mem) (hE : f_X7_start imT = some mT') : CV l yX7_start wsX7_start rm_X7_start D cy [.ref (aT 0)] (W_T cy aT imT) 0 0 (W_T cy aT mT') := by
  refine CQ_of (cc := cX7_start) (maxL := 1) (ret := none) (by decide) rfl (Nat.le_of_ble_eq_true rfl) (fun p e s m args below meth c A ls hx hb hr hml hlocks hnm hown hts hA hK hN hP hD hS hl => ?_)
  have hown : s.vm.findClass RX7 = some m.cls := hown
  have hl : lv_has ls 1 [(0, .ref (aT 0))] := hl
  have f17 : (Cond.fieldLink RX7 17 "IcePlant$Text" "length" "I").before args s = true := hts _ (mC qf_X7_17)
  have f21 : (Cond.fieldLink RX7 21 "IcePlant$Text" "at" "I").before args s = true := hts _ (mC qf_X7_21)
  have f24 : (Cond.fieldLink RX7 24 "IcePlant$Text" "error" "I").before args s = true := hts _ (mC qf_X7_24)
  have f27 : (Cond.fieldLink RX7 27 "IcePlant$Text" "awaitsCommand" "Z").before args s = true := hts _ (mC qf_X7_27)
  have iX7 : ∀ w ∈ wsX70, w ∈ wsX7_start := fun w h => mC (iA_X7 w h)
  unfold f_X7_start at hE
  refine lv_aload_n hx hb dX7_start_0 rfl (lv_at hl 0 rfl) ?_
  refine lv_iconst (v := 0) hx hb dX7_start_1 (by decide) ?_
  obtain ⟨mT_1, e_mT_1, hE⟩ := lt_el hE
  refine s_pf (own := RX7) (C := RX7) (T := TX7) (N := 8) (ci := 7) (ws1 := (W_T cy aT mT_1)) hx hb hts iX7 tyX7 tyX7_ok nmX7 hown hK hP hD hS 0 rfl rfl 1 (by decide) f21 rfl rfl rfl rfl (Nat.le_of_ble_eq_true rfl) (by rw [e_mT_1]; rfl) dX7_start_2 (fun H locs hP hD hS => ?_)
  refine lv_aload_n hx hb dX7_start_5 rfl (lv_at hl 0 rfl) ?_
  refine lv_iconst (v := 0) hx hb dX7_start_6 (by decide) ?_
  obtain ⟨mT_2, e_mT_2, hE⟩ := lt_el hE
  refine s_pf (own := RX7) (C := RX7) (T := TX7) (N := 8) (ci := 7) (ws1 := (W_T cy aT mT_2)) hx hb hts iX7 tyX7 tyX7_ok nmX7 hown hK hP hD hS 0 rfl rfl 2 (by decide) f24 rfl rfl rfl rfl (Nat.le_of_ble_eq_true rfl) (by rw [e_mT_2]; rfl) dX7_start_7 (fun H locs hP hD hS => ?_)
  refine lv_aload_n hx hb dX7_start_10 rfl (lv_at hl 0 rfl) ?_
  refine lv_aload_n hx hb dX7_start_11 rfl (lv_at hl 0 rfl) ?_
  refine va_get (D := D) (ci := 7) (v := .int (mT_2 0 0)) (C := RX7) (T := TX7) (N := 8) hx hb hts iX7 hown hK hP 0 rfl rfl 0 (by decide) f17 (fun _ h9 => h9) rfl dX7_start_12 ?_
  refine lv_if_le (tgt := 22) hx hb dX7_start_15 (by decide) (fun c_3 => ?_) (fun c_3 => ?_)
  · replace hE := it_t hE c_3
    refine lv_iconst (v := 0) hx hb dX7_start_22 (by decide) ?_
    obtain ⟨mT_4, e_mT_4, hE⟩ := lt_el hE
    refine s_pf (own := RX7) (C := RX7) (T := TX7) (N := 8) (ci := 7) (ws1 := (W_T cy aT mT_4)) hx hb hts iX7 tyX7 tyX7_ok nmX7 hown hK hP hD hS 0 rfl rfl 6 (by decide) f27 rfl rfl (by decide) (by decide) (Nat.le_of_ble_eq_true rfl) (by rw [e_mT_4]; rfl) dX7_start_23 (fun H locs hP hD hS => ?_)
    have hE := Option.some.inj hE
    exact ev hx hb hr hlocks hK hP hD hS (by rw [hE]) dX7_start_26
  · replace hE := it_f hE c_3
    refine lv_iconst (v := 1) hx hb dX7_start_18 (by decide) ?_
    refine lv_goto (tgt := 23) hx hb dX7_start_19 (by decide) ?_
    obtain ⟨mT_5, e_mT_5, hE⟩ := lt_el hE
    refine s_pf (own := RX7) (C := RX7) (T := TX7) (N := 8) (ci := 7) (ws1 := (W_T cy aT mT_5)) hx hb hts iX7 tyX7 tyX7_ok nmX7 hown hK hP hD hS 0 rfl rfl 6 (by decide) f27 rfl rfl (by decide) (by decide) (Nat.le_of_ble_eq_true rfl) (by rw [e_mT_5]; rfl) dX7_start_23 (fun H locs hP hD hS => ?_)
    have hE := Option.some.inj hE
    exact ev hx hb hr hlocks hK hP hD hS (by rw [hE]) dX7_start_26
abbrev rm_X7_hasCommand : Room := { frames := 0, cells := 0, slots := 0, locals := 0 }
set_option maxHeartbeats 40000000 in
set_option maxRecDepth 100000 in
theorem c_X7_hasCommand (l : Launch) (D : va_G) (cy : Nat → Nat) (aT : Nat → Nat) (imT : Mem) (r' : Int32) (hE : f_X7_hasCommand imT = some r') : CI l yX7_hasCommand wsX7_hasCommand rm_X7_hasCommand D cy [.ref (aT 0)] (W_T cy aT imT) 0 0 r' (W_T cy aT imT) := by
  refine CQ_of (cc := cX7_hasCommand) (maxL := 1) (ret := (some .boolean)) (by decide) rfl (Nat.le_of_ble_eq_true rfl) (fun p e s m args below meth c A ls hx hb hr hml hlocks hnm hown hts hA hK hN hP hD hS hl => ?_)
  have hown : s.vm.findClass RX7 = some m.cls := hown
  have hl : lv_has ls 1 [(0, .ref (aT 0))] := hl
  have f24 : (Cond.fieldLink RX7 24 "IcePlant$Text" "error" "I").before args s = true := hts _ (mC qf_X7_24)
  have f27 : (Cond.fieldLink RX7 27 "IcePlant$Text" "awaitsCommand" "Z").before args s = true := hts _ (mC qf_X7_27)
  have iX7 : ∀ w ∈ wsX70, w ∈ wsX7_hasCommand := fun w h => mC (iA_X7 w h)
  unfold f_X7_hasCommand at hE
  refine lv_aload_n hx hb dX7_hasCommand_0 rfl (lv_at hl 0 rfl) ?_
  refine va_get (D := D) (ci := 7) (v := .int (imT 6 0)) (C := RX7) (T := TX7) (N := 8) hx hb hts iX7 hown hK hP 0 rfl rfl 6 (by decide) f27 (fun _ h9 => h9) rfl dX7_hasCommand_1 ?_
  refine lv_if_eq (tgt := 18) hx hb dX7_hasCommand_4 (by decide) (fun c_1 => ?_) (fun c_1 => ?_)
  · replace hE := it_t hE c_1
    refine lv_iconst (v := 0) hx hb dX7_hasCommand_18 (by decide) ?_
    have hE := Option.some.inj hE
    exact ez hx hb hr (by decide) hlocks hK hP hD hS hE rfl dX7_hasCommand_19
  · replace hE := it_f hE c_1
    refine lv_aload_n hx hb dX7_hasCommand_7 rfl (lv_at hl 0 rfl) ?_
    refine va_get (D := D) (ci := 7) (v := .int (imT 2 0)) (C := RX7) (T := TX7) (N := 8) hx hb hts iX7 hown hK hP 0 rfl rfl 2 (by decide) f24 (fun _ h9 => h9) rfl dX7_hasCommand_8 ?_
    refine lv_if_ne (tgt := 18) hx hb dX7_hasCommand_11 (by decide) (fun c_2 => ?_) (fun c_2 => ?_)
    · replace hE := it_f hE c_2
      refine lv_iconst (v := 0) hx hb dX7_hasCommand_18 (by decide) ?_
      have hE := Option.some.inj hE
      exact ez hx hb hr (by decide) hlocks hK hP hD hS hE rfl dX7_hasCommand_19
    · replace hE := it_t hE c_2
      refine lv_iconst (v := 1) hx hb dX7_hasCommand_14 (by decide) ?_
      refine lv_goto (tgt := 19) hx hb dX7_hasCommand_15 (by decide) ?_
      have hE := Option.some.inj hE
      exact ez hx hb hr (by decide) hlocks hK hP hD hS hE rfl dX7_hasCommand_19
abbrev rm_X7_sign : Room := { frames := 0, cells := 0, slots := 0, locals := 0 }
set_option maxHeartbeats 40000000 in
set_option maxRecDepth 100000 in
theorem c_X7_sign (l : Launch) (D : va_G) (cy : Nat → Nat) (aT : Nat → Nat) (imT : Mem) (r' : Int32) (hE : f_X7_sign imT = some r') : CI l yX7_sign wsX7_sign rm_X7_sign D cy [.ref (aT 0)] (W_T cy aT imT) 0 0 r' (W_T cy aT imT) := by
  refine CQ_of (cc := cX7_sign) (maxL := 1) (ret := (some .char)) (by decide) rfl (Nat.le_of_ble_eq_true rfl) (fun p e s m args below meth c A ls hx hb hr hml hlocks hnm hown hts hA hK hN hP hD hS hl => ?_)
  have hown : s.vm.findClass RX7 = some m.cls := hown
  have hl : lv_has ls 1 [(0, .ref (aT 0))] := hl
  have f13 : (Cond.fieldLink RX7 13 "IcePlant$Text" "signs" "[C").before args s = true := hts _ (mC qf_X7_13)
  have f17 : (Cond.fieldLink RX7 17 "IcePlant$Text" "length" "I").before args s = true := hts _ (mC qf_X7_17)
  have f21 : (Cond.fieldLink RX7 21 "IcePlant$Text" "at" "I").before args s = true := hts _ (mC qf_X7_21)
  have iX7 : ∀ w ∈ wsX70, w ∈ wsX7_sign := fun w h => mC (iA_X7 w h)
  unfold f_X7_sign at hE
  refine lv_aload_n hx hb dX7_sign_0 rfl (lv_at hl 0 rfl) ?_
  refine va_get (D := D) (ci := 7) (v := .int (imT 1 0)) (C := RX7) (T := TX7) (N := 8) hx hb hts iX7 hown hK hP 0 rfl rfl 1 (by decide) f21 (fun _ h9 => h9) rfl dX7_sign_1 ?_
  refine lv_if_lt (tgt := 42) hx hb dX7_sign_4 (by decide) (fun c_1 => ?_) (fun c_1 => ?_)
  · replace hE := it_t hE c_1
    refine lv_iconst (v := 0) hx hb dX7_sign_42 (by decide) ?_
    have hE := Option.some.inj hE
    exact ez hx hb hr (by decide) hlocks hK hP hD hS hE rfl dX7_sign_43
  · replace hE := it_f hE c_1
    refine lv_aload_n hx hb dX7_sign_7 rfl (lv_at hl 0 rfl) ?_
    refine va_get (D := D) (ci := 7) (v := .int (imT 1 0)) (C := RX7) (T := TX7) (N := 8) hx hb hts iX7 hown hK hP 0 rfl rfl 1 (by decide) f21 (fun _ h9 => h9) rfl dX7_sign_8 ?_
    refine lv_aload_n hx hb dX7_sign_11 rfl (lv_at hl 0 rfl) ?_
    refine va_get (D := D) (ci := 7) (v := .int (imT 0 0)) (C := RX7) (T := TX7) (N := 8) hx hb hts iX7 hown hK hP 0 rfl rfl 0 (by decide) f17 (fun _ h9 => h9) rfl dX7_sign_12 ?_
    refine lv_icmp_ge (tgt := 42) hx hb dX7_sign_15 (by decide) (fun c_2 => ?_) (fun c_2 => ?_)
    · replace hE := it_t hE c_2
      refine lv_iconst (v := 0) hx hb dX7_sign_42 (by decide) ?_
      have hE := Option.some.inj hE
      exact ez hx hb hr (by decide) hlocks hK hP hD hS hE rfl dX7_sign_43
    · replace hE := it_f hE c_2
      refine lv_aload_n hx hb dX7_sign_18 rfl (lv_at hl 0 rfl) ?_
      refine va_get (D := D) (ci := 7) (v := .int (imT 1 0)) (C := RX7) (T := TX7) (N := 8) hx hb hts iX7 hown hK hP 0 rfl rfl 1 (by decide) f21 (fun _ h9 => h9) rfl dX7_sign_19 ?_
      refine lv_aload_n hx hb dX7_sign_22 rfl (lv_at hl 0 rfl) ?_
      refine va_get (D := D) (ci := 7) (v := .ref (aT 8)) (C := RX7) (T := TX7) (N := 8) hx hb hts iX7 hown hK hP 0 rfl rfl 7 (by decide) f13 (fun _ h9 => h9) rfl dX7_sign_23 ?_
      refine va_alen hx hb hK hP 2 2 rfl rfl (v := (120 : Int32)) rfl dX7_sign_26 ?_
      refine lv_icmp_ge (tgt := 42) hx hb dX7_sign_27 (by decide) (fun c_3 => ?_) (fun c_3 => ?_)
      · replace hE := it_t hE c_3
        refine lv_iconst (v := 0) hx hb dX7_sign_42 (by decide) ?_
        have hE := Option.some.inj hE
        exact ez hx hb hr (by decide) hlocks hK hP hD hS hE rfl dX7_sign_43
      · replace hE := it_f hE c_3
        refine lv_aload_n hx hb dX7_sign_30 rfl (lv_at hl 0 rfl) ?_
        refine va_get (D := D) (ci := 7) (v := .ref (aT 8)) (C := RX7) (T := TX7) (N := 8) hx hb hts iX7 hown hK hP 0 rfl rfl 7 (by decide) f13 (fun _ h9 => h9) rfl dX7_sign_31 ?_
        refine lv_aload_n hx hb dX7_sign_34 rfl (lv_at hl 0 rfl) ?_
        refine va_get (D := D) (ci := 7) (v := .int (imT 1 0)) (C := RX7) (T := TX7) (N := 8) hx hb hts iX7 hown hK hP 0 rfl rfl 1 (by decide) f21 (fun _ h9 => h9) rfl dX7_sign_35 ?_
        obtain ⟨g_4, hE⟩ := gi_el hE
        refine va_cald hx hb hK hP 2 2 rfl rfl g_4 dX7_sign_38 ?_
        refine lv_goto (tgt := 43) hx hb dX7_sign_39 (by decide) ?_
        obtain ⟨g_5, hE⟩ := gch_el hE
        have hE := Option.some.inj hE
        exact ez hx hb hr (gch_n g_5) hlocks hK hP hD hS hE rfl dX7_sign_43
abbrev rm_X7_numbersBehind : Room := { frames := 0, cells := 0, slots := 0, locals := 0 }
set_option maxHeartbeats 40000000 in
set_option maxRecDepth 100000 in
theorem c_X7_numbersBehind (l : Launch) (D : va_G) (cy : Nat → Nat)  (x0 : Int32) (r' : Int32) (hE : f_X7_numbersBehind x0 = some r') : CI l yX7_numbersBehind wsX7_numbersBehind rm_X7_numbersBehind D cy [.int x0] ([] : va_W) 0 0 r' ([] : va_W) := by
  refine CQ_of (cc := cX7_numbersBehind) (maxL := 1) (ret := (some .int)) (by decide) rfl (Nat.le_of_ble_eq_true rfl) (fun p e s m args below meth c A ls hx hb hr hml hlocks hnm hown hts hA hK hN hP hD hS hl => ?_)
  have hown : s.vm.findClass RX7 = some m.cls := hown
  have hl : lv_has ls 1 [(0, .int x0)] := hl
  unfold f_X7_numbersBehind at hE
  refine lv_iload_n hx hb dX7_numbersBehind_0 rfl (lv_at hl 0 rfl) ?_
  by_cases c_1_99 : x0 = 99
  · replace hE := it_t hE c_1_99
    refine lv_tableIn (tgt := 76) hx hb dX7_numbersBehind_1 (by rw [c_1_99]; decide) (by rw [c_1_99]; decide) (off := 75) (by rw [c_1_99]; decide) (by decide) ?_
    refine lv_iconst (v := 2) hx hb dX7_numbersBehind_76 (by decide) ?_
    have hE := Option.some.inj hE
    exact ei hx hb hr hlocks hK hP hD hS hE rfl dX7_numbersBehind_77
  · replace hE := it_f hE c_1_99
    by_cases c_1_100 : x0 = 100
    · replace hE := it_t hE c_1_100
      refine lv_tableIn (tgt := 78) hx hb dX7_numbersBehind_1 (by rw [c_1_100]; decide) (by rw [c_1_100]; decide) (off := 77) (by rw [c_1_100]; decide) (by decide) ?_
      refine lv_iconst (v := 0) hx hb dX7_numbersBehind_78 (by decide) ?_
      have hE := Option.some.inj hE
      exact ei hx hb hr hlocks hK hP hD hS hE rfl dX7_numbersBehind_79
    · replace hE := it_f hE c_1_100
      by_cases c_1_101 : x0 = 101
      · replace hE := it_t hE c_1_101
        refine lv_tableIn (tgt := 78) hx hb dX7_numbersBehind_1 (by rw [c_1_101]; decide) (by rw [c_1_101]; decide) (off := 77) (by rw [c_1_101]; decide) (by decide) ?_
        refine lv_iconst (v := 0) hx hb dX7_numbersBehind_78 (by decide) ?_
        have hE := Option.some.inj hE
        exact ei hx hb hr hlocks hK hP hD hS hE rfl dX7_numbersBehind_79
      · replace hE := it_f hE c_1_101
        by_cases c_1_102 : x0 = 102
        · replace hE := it_t hE c_1_102
          refine lv_tableIn (tgt := 78) hx hb dX7_numbersBehind_1 (by rw [c_1_102]; decide) (by rw [c_1_102]; decide) (off := 77) (by rw [c_1_102]; decide) (by decide) ?_
          refine lv_iconst (v := 0) hx hb dX7_numbersBehind_78 (by decide) ?_
          have hE := Option.some.inj hE
          exact ei hx hb hr hlocks hK hP hD hS hE rfl dX7_numbersBehind_79
        · replace hE := it_f hE c_1_102
          by_cases c_1_103 : x0 = 103
          · replace hE := it_t hE c_1_103
            refine lv_tableIn (tgt := 78) hx hb dX7_numbersBehind_1 (by rw [c_1_103]; decide) (by rw [c_1_103]; decide) (off := 77) (by rw [c_1_103]; decide) (by decide) ?_
            refine lv_iconst (v := 0) hx hb dX7_numbersBehind_78 (by decide) ?_
            have hE := Option.some.inj hE
            exact ei hx hb hr hlocks hK hP hD hS hE rfl dX7_numbersBehind_79
          · replace hE := it_f hE c_1_103
            by_cases c_1_104 : x0 = 104
            · replace hE := it_t hE c_1_104
              refine lv_tableIn (tgt := 72) hx hb dX7_numbersBehind_1 (by rw [c_1_104]; decide) (by rw [c_1_104]; decide) (off := 71) (by rw [c_1_104]; decide) (by decide) ?_
              refine lv_iconst (v := 1) hx hb dX7_numbersBehind_72 (by decide) ?_
              have hE := Option.some.inj hE
              exact ei hx hb hr hlocks hK hP hD hS hE rfl dX7_numbersBehind_73
            · replace hE := it_f hE c_1_104
              by_cases c_1_105 : x0 = 105
              · replace hE := it_t hE c_1_105
                refine lv_tableIn (tgt := 78) hx hb dX7_numbersBehind_1 (by rw [c_1_105]; decide) (by rw [c_1_105]; decide) (off := 77) (by rw [c_1_105]; decide) (by decide) ?_
                refine lv_iconst (v := 0) hx hb dX7_numbersBehind_78 (by decide) ?_
                have hE := Option.some.inj hE
                exact ei hx hb hr hlocks hK hP hD hS hE rfl dX7_numbersBehind_79
              · replace hE := it_f hE c_1_105
                by_cases c_1_106 : x0 = 106
                · replace hE := it_t hE c_1_106
                  refine lv_tableIn (tgt := 78) hx hb dX7_numbersBehind_1 (by rw [c_1_106]; decide) (by rw [c_1_106]; decide) (off := 77) (by rw [c_1_106]; decide) (by decide) ?_
                  refine lv_iconst (v := 0) hx hb dX7_numbersBehind_78 (by decide) ?_
                  have hE := Option.some.inj hE
                  exact ei hx hb hr hlocks hK hP hD hS hE rfl dX7_numbersBehind_79
                · replace hE := it_f hE c_1_106
                  by_cases c_1_107 : x0 = 107
                  · replace hE := it_t hE c_1_107
                    refine lv_tableIn (tgt := 78) hx hb dX7_numbersBehind_1 (by rw [c_1_107]; decide) (by rw [c_1_107]; decide) (off := 77) (by rw [c_1_107]; decide) (by decide) ?_
                    refine lv_iconst (v := 0) hx hb dX7_numbersBehind_78 (by decide) ?_
                    have hE := Option.some.inj hE
                    exact ei hx hb hr hlocks hK hP hD hS hE rfl dX7_numbersBehind_79
                  · replace hE := it_f hE c_1_107
                    by_cases c_1_108 : x0 = 108
                    · replace hE := it_t hE c_1_108
                      refine lv_tableIn (tgt := 78) hx hb dX7_numbersBehind_1 (by rw [c_1_108]; decide) (by rw [c_1_108]; decide) (off := 77) (by rw [c_1_108]; decide) (by decide) ?_
                      refine lv_iconst (v := 0) hx hb dX7_numbersBehind_78 (by decide) ?_
                      have hE := Option.some.inj hE
                      exact ei hx hb hr hlocks hK hP hD hS hE rfl dX7_numbersBehind_79
                    · replace hE := it_f hE c_1_108
                      by_cases c_1_109 : x0 = 109
                      · replace hE := it_t hE c_1_109
                        refine lv_tableIn (tgt := 76) hx hb dX7_numbersBehind_1 (by rw [c_1_109]; decide) (by rw [c_1_109]; decide) (off := 75) (by rw [c_1_109]; decide) (by decide) ?_
                        refine lv_iconst (v := 2) hx hb dX7_numbersBehind_76 (by decide) ?_
                        have hE := Option.some.inj hE
                        exact ei hx hb hr hlocks hK hP hD hS hE rfl dX7_numbersBehind_77
                      · replace hE := it_f hE c_1_109
                        by_cases c_1_110 : x0 = 110
                        · replace hE := it_t hE c_1_110
                          refine lv_tableIn (tgt := 78) hx hb dX7_numbersBehind_1 (by rw [c_1_110]; decide) (by rw [c_1_110]; decide) (off := 77) (by rw [c_1_110]; decide) (by decide) ?_
                          refine lv_iconst (v := 0) hx hb dX7_numbersBehind_78 (by decide) ?_
                          have hE := Option.some.inj hE
                          exact ei hx hb hr hlocks hK hP hD hS hE rfl dX7_numbersBehind_79
                        · replace hE := it_f hE c_1_110
                          by_cases c_1_111 : x0 = 111
                          · replace hE := it_t hE c_1_111
                            refine lv_tableIn (tgt := 74) hx hb dX7_numbersBehind_1 (by rw [c_1_111]; decide) (by rw [c_1_111]; decide) (off := 73) (by rw [c_1_111]; decide) (by decide) ?_
                            refine lv_iconst (v := 3) hx hb dX7_numbersBehind_74 (by decide) ?_
                            have hE := Option.some.inj hE
                            exact ei hx hb hr hlocks hK hP hD hS hE rfl dX7_numbersBehind_75
                          · replace hE := it_f hE c_1_111
                            by_cases c_1_112 : x0 = 112
                            · replace hE := it_t hE c_1_112
                              refine lv_tableIn (tgt := 76) hx hb dX7_numbersBehind_1 (by rw [c_1_112]; decide) (by rw [c_1_112]; decide) (off := 75) (by rw [c_1_112]; decide) (by decide) ?_
                              refine lv_iconst (v := 2) hx hb dX7_numbersBehind_76 (by decide) ?_
                              have hE := Option.some.inj hE
                              exact ei hx hb hr hlocks hK hP hD hS hE rfl dX7_numbersBehind_77
                            · replace hE := it_f hE c_1_112
                              refine lv_tableOut (tgt := 78) hx hb dX7_numbersBehind_1 (sw_out (lo := 99) (hi := 112) (fun z h1 h2 => ?_)) (by decide) ?_
                              · rcases (show z = 99 ∨ z = 100 ∨ z = 101 ∨ z = 102 ∨ z = 103 ∨ z = 104 ∨ z = 105 ∨ z = 106 ∨ z = 107 ∨ z = 108 ∨ z = 109 ∨ z = 110 ∨ z = 111 ∨ z = 112 by omega) with rfl | rfl | rfl | rfl | rfl | rfl | rfl | rfl | rfl | rfl | rfl | rfl | rfl | rfl
                                · exact fun q9 => c_1_99 (q9.trans (by decide))
                                · exact fun q9 => c_1_100 (q9.trans (by decide))
                                · exact fun q9 => c_1_101 (q9.trans (by decide))
                                · exact fun q9 => c_1_102 (q9.trans (by decide))
                                · exact fun q9 => c_1_103 (q9.trans (by decide))
                                · exact fun q9 => c_1_104 (q9.trans (by decide))
                                · exact fun q9 => c_1_105 (q9.trans (by decide))
                                · exact fun q9 => c_1_106 (q9.trans (by decide))
                                · exact fun q9 => c_1_107 (q9.trans (by decide))
                                · exact fun q9 => c_1_108 (q9.trans (by decide))
                                · exact fun q9 => c_1_109 (q9.trans (by decide))
                                · exact fun q9 => c_1_110 (q9.trans (by decide))
                                · exact fun q9 => c_1_111 (q9.trans (by decide))
                                · exact fun q9 => c_1_112 (q9.trans (by decide))
                              · refine lv_iconst (v := 0) hx hb dX7_numbersBehind_78 (by decide) ?_
                                have hE := Option.some.inj hE
                                exact ei hx hb hr hlocks hK hP hD hS hE rfl dX7_numbersBehind_79
abbrev rm_X7_failHere : Room := { frames := 0, cells := 0, slots := 0, locals := 0 }
set_option maxHeartbeats 40000000 in
set_option maxRecDepth 100000 in
theorem c_X7_failHere (l : Launch) (D : va_G) (cy : Nat → Nat) (aT : Nat → Nat) (imT : Mem) (mT' : Mem) (hE : f_X7_failHere imT = some mT') : CV l yX7_failHere wsX7_failHere rm_X7_failHere D cy [.ref (aT 0)] (W_T cy aT imT) 0 0 (W_T cy aT mT') := by
  refine CQ_of (cc := cX7_failHere) (maxL := 1) (ret := none) (by decide) rfl (Nat.le_of_ble_eq_true rfl) (fun p e s m args below meth c A ls hx hb hr hml hlocks hnm hown hts hA hK hN hP hD hS hl => ?_)
  have hown : s.vm.findClass RX7 = some m.cls := hown
  have hl : lv_has ls 1 [(0, .ref (aT 0))] := hl
  have f17 : (Cond.fieldLink RX7 17 "IcePlant$Text" "length" "I").before args s = true := hts _ (mC qf_X7_17)
  have f21 : (Cond.fieldLink RX7 21 "IcePlant$Text" "at" "I").before args s = true := hts _ (mC qf_X7_21)
  have f24 : (Cond.fieldLink RX7 24 "IcePlant$Text" "error" "I").before args s = true := hts _ (mC qf_X7_24)
  have iX7 : ∀ w ∈ wsX70, w ∈ wsX7_failHere := fun w h => mC (iA_X7 w h)
  unfold f_X7_failHere at hE
  refine lv_aload_n hx hb dX7_failHere_0 rfl (lv_at hl 0 rfl) ?_
  refine lv_aload_n hx hb dX7_failHere_1 rfl (lv_at hl 0 rfl) ?_
  refine va_get (D := D) (ci := 7) (v := .int (imT 1 0)) (C := RX7) (T := TX7) (N := 8) hx hb hts iX7 hown hK hP 0 rfl rfl 1 (by decide) f21 (fun _ h9 => h9) rfl dX7_failHere_2 ?_
  refine lv_aload_n hx hb dX7_failHere_5 rfl (lv_at hl 0 rfl) ?_
  refine va_get (D := D) (ci := 7) (v := .int (imT 0 0)) (C := RX7) (T := TX7) (N := 8) hx hb hts iX7 hown hK hP 0 rfl rfl 0 (by decide) f17 (fun _ h9 => h9) rfl dX7_failHere_6 ?_
  refine lv_icmp_ge (tgt := 16) hx hb dX7_failHere_9 (by decide) (fun c_1 => ?_) (fun c_1 => ?_)
  · replace hE := it_t hE c_1
    refine lv_iconst (v := 3) hx hb dX7_failHere_16 (by decide) ?_
    obtain ⟨mT_2, e_mT_2, hE⟩ := lt_el hE
    refine s_pf (own := RX7) (C := RX7) (T := TX7) (N := 8) (ci := 7) (ws1 := (W_T cy aT mT_2)) hx hb hts iX7 tyX7 tyX7_ok nmX7 hown hK hP hD hS 0 rfl rfl 2 (by decide) f24 rfl rfl rfl rfl (Nat.le_of_ble_eq_true rfl) (by rw [e_mT_2]; rfl) dX7_failHere_17 (fun H locs hP hD hS => ?_)
    have hE := Option.some.inj hE
    exact ev hx hb hr hlocks hK hP hD hS (by rw [hE]) dX7_failHere_20
  · replace hE := it_f hE c_1
    refine lv_iconst (v := 1) hx hb dX7_failHere_12 (by decide) ?_
    refine lv_goto (tgt := 17) hx hb dX7_failHere_13 (by decide) ?_
    obtain ⟨mT_3, e_mT_3, hE⟩ := lt_el hE
    refine s_pf (own := RX7) (C := RX7) (T := TX7) (N := 8) (ci := 7) (ws1 := (W_T cy aT mT_3)) hx hb hts iX7 tyX7 tyX7_ok nmX7 hown hK hP hD hS 0 rfl rfl 2 (by decide) f24 rfl rfl rfl rfl (Nat.le_of_ble_eq_true rfl) (by rw [e_mT_3]; rfl) dX7_failHere_17 (fun H locs hP hD hS => ?_)
    have hE := Option.some.inj hE
    exact ev hx hb hr hlocks hK hP hD hS (by rw [hE]) dX7_failHere_20
abbrev rm_X7_readComma : Room := { frames := 1, cells := 0, slots := 0, locals := 20 }
set_option maxHeartbeats 40000000 in
set_option maxRecDepth 100000 in
theorem c_X7_readComma (l : Launch) (D : va_G) (cy : Nat → Nat) (aT : Nat → Nat) (imT : Mem) (mT' : Mem) (hE : f_X7_readComma imT = some mT') : CV l yX7_readComma wsX7_readComma rm_X7_readComma D cy [.ref (aT 0)] (W_T cy aT imT) 0 0 (W_T cy aT mT') := by
  refine CQ_of (cc := cX7_readComma) (maxL := 1) (ret := none) (by decide) rfl (Nat.le_of_ble_eq_true rfl) (fun p e s m args below meth c A ls hx hb hr hml hlocks hnm hown hts hA hK hN hP hD hS hl => ?_)
  have hown : s.vm.findClass RX7 = some m.cls := hown
  have hl : lv_has ls 1 [(0, .ref (aT 0))] := hl
  have hC : CallFix p m c cX7_readComma 1 s args wsX7_readComma RX7 := ⟨hx, hb, hml, hown, hts⟩
  have f21 : (Cond.fieldLink RX7 21 "IcePlant$Text" "at" "I").before args s = true := hts _ (mC qf_X7_21)
  have iX7 : ∀ w ∈ wsX70, w ∈ wsX7_readComma := fun w h => mC (iA_X7 w h)
  unfold f_X7_readComma at hE
  refine lv_aload_n hx hb dX7_readComma_0 rfl (lv_at hl 0 rfl) ?_
  obtain ⟨r_1, hc_2, hE⟩ := bd1_el hE
  refine ki (X := []) (Y := []) (ws1 := (W_T cy aT imT)) (rV (X := []) (Y := []) (As := []) (rest := []) hC (c_X7_sign l D cy aT imT r_1 hc_2) (cwV 0 hts gX7_readComma_X7_sign rfl rfl rfl cd_X7_sign ⟨Nat.le_of_ble_eq_true rfl, Nat.le_of_ble_eq_true rfl⟩) hK hN hP hD hS hA rfl 0 7 rfl rfl rfl hl.1 rfl (lv_room (Nat.le_of_ble_eq_true rfl)) dX7_readComma_1 ⟨Nat.le_of_ble_eq_true rfl, Nat.le_of_ble_eq_true rfl⟩) hP hD hS hA rfl rfl rfl (fun H locs hP hD hS => ?_)
  refine lv_bipush (v := 44) hx hb dX7_readComma_4 (by decide) ?_
  refine lv_icmp_ne (tgt := 22) hx hb dX7_readComma_6 (by decide) (fun c_3 => ?_) (fun c_3 => ?_)
  · replace hE := it_f hE c_3
    refine lv_aload_n hx hb dX7_readComma_22 rfl (lv_at hl 0 rfl) ?_
    obtain ⟨mT_4, hc_5, hE⟩ := bd1_el hE
    refine kv (X := []) (Y := []) (ws1 := (W_T cy aT mT_4)) (rV (X := []) (Y := []) (As := []) (rest := []) hC (c_X7_failHere l D cy aT imT mT_4 hc_5) (cwV 0 hts gX7_readComma_X7_failHere rfl rfl rfl cd_X7_failHere ⟨Nat.le_of_ble_eq_true rfl, Nat.le_of_ble_eq_true rfl⟩) hK hN hP hD hS hA rfl 0 7 rfl rfl rfl hl.1 rfl (lv_room (Nat.le_of_ble_eq_true rfl)) dX7_readComma_23 ⟨Nat.le_of_ble_eq_true rfl, Nat.le_of_ble_eq_true rfl⟩) hP hD hS hA rfl rfl rfl (fun H locs hP hD hS => ?_)
    have hE := Option.some.inj hE
    exact ev hx hb hr hlocks hK hP hD hS (by rw [hE]) dX7_readComma_26
  · replace hE := it_t hE c_3
    refine lv_aload_n hx hb dX7_readComma_9 rfl (lv_at hl 0 rfl) ?_
    refine lv_dup hx hb dX7_readComma_10 rfl ?_
    refine va_get (D := D) (ci := 7) (v := .int (imT 1 0)) (C := RX7) (T := TX7) (N := 8) hx hb hts iX7 hown hK hP 0 rfl rfl 1 (by decide) f21 (fun _ h9 => h9) rfl dX7_readComma_11 ?_
    refine lv_iconst (v := 1) hx hb dX7_readComma_14 (by decide) ?_
    refine lv_iadd hx hb dX7_readComma_15 ?_
    obtain ⟨mT_6, e_mT_6, hE⟩ := lt_el hE
    refine s_pf (own := RX7) (C := RX7) (T := TX7) (N := 8) (ci := 7) (ws1 := (W_T cy aT mT_6)) hx hb hts iX7 tyX7 tyX7_ok nmX7 hown hK hP hD hS 0 rfl rfl 1 (by decide) f21 rfl rfl rfl rfl (Nat.le_of_ble_eq_true rfl) (by rw [e_mT_6]; rfl) dX7_readComma_16 (fun H locs hP hD hS => ?_)
    refine lv_goto (tgt := 26) hx hb dX7_readComma_19 (by decide) ?_
    have hE := Option.some.inj hE
    exact ev hx hb hr hlocks hK hP hD hS (by rw [hE]) dX7_readComma_26
abbrev rm_X7_isDigit : Room := { frames := 0, cells := 0, slots := 0, locals := 0 }
set_option maxHeartbeats 40000000 in
set_option maxRecDepth 100000 in
theorem c_X7_isDigit (l : Launch) (D : va_G) (cy : Nat → Nat)  (x0 : Int32) (r' : Int32) (hE : f_X7_isDigit x0 = some r') : CI l yX7_isDigit wsX7_isDigit rm_X7_isDigit D cy [.int x0] ([] : va_W) 0 0 r' ([] : va_W) := by
  refine CQ_of (cc := cX7_isDigit) (maxL := 1) (ret := (some .boolean)) (by decide) rfl (Nat.le_of_ble_eq_true rfl) (fun p e s m args below meth c A ls hx hb hr hml hlocks hnm hown hts hA hK hN hP hD hS hl => ?_)
  have hown : s.vm.findClass RX7 = some m.cls := hown
  have hl : lv_has ls 1 [(0, .int x0)] := hl
  unfold f_X7_isDigit at hE
  refine lv_iload_n hx hb dX7_isDigit_0 rfl (lv_at hl 0 rfl) ?_
  refine lv_bipush (v := 48) hx hb dX7_isDigit_1 (by decide) ?_
  refine lv_icmp_lt (tgt := 16) hx hb dX7_isDigit_3 (by decide) (fun c_1 => ?_) (fun c_1 => ?_)
  · replace hE := it_t hE c_1
    refine lv_iconst (v := 0) hx hb dX7_isDigit_16 (by decide) ?_
    have hE := Option.some.inj hE
    exact ez hx hb hr (by decide) hlocks hK hP hD hS hE rfl dX7_isDigit_17
  · replace hE := it_f hE c_1
    refine lv_iload_n hx hb dX7_isDigit_6 rfl (lv_at hl 0 rfl) ?_
    refine lv_bipush (v := 57) hx hb dX7_isDigit_7 (by decide) ?_
    refine lv_icmp_gt (tgt := 16) hx hb dX7_isDigit_9 (by decide) (fun c_2 => ?_) (fun c_2 => ?_)
    · replace hE := it_t hE c_2
      refine lv_iconst (v := 0) hx hb dX7_isDigit_16 (by decide) ?_
      have hE := Option.some.inj hE
      exact ez hx hb hr (by decide) hlocks hK hP hD hS hE rfl dX7_isDigit_17
    · replace hE := it_f hE c_2
      refine lv_iconst (v := 1) hx hb dX7_isDigit_12 (by decide) ?_
      refine lv_goto (tgt := 17) hx hb dX7_isDigit_13 (by decide) ?_
      have hE := Option.some.inj hE
      exact ez hx hb hr (by decide) hlocks hK hP hD hS hE rfl dX7_isDigit_17
abbrev rm_X7_readNumber : Room := { frames := 1, cells := 0, slots := 0, locals := 20 }
set_option maxHeartbeats 40000000 in
set_option maxRecDepth 100000 in
theorem c_X7_readNumber (l : Launch) (D : va_G) (cy : Nat → Nat) (aT : Nat → Nat) (x1 : Int32) (imT : Mem) (mT' : Mem) (hE : f_X7_readNumber x1 imT = some mT') : CV l yX7_readNumber wsX7_readNumber rm_X7_readNumber D cy [.ref (aT 0), .int x1] (W_T cy aT imT) 0 0 (W_T cy aT mT') := by
  refine CQ_of (cc := cX7_readNumber) (maxL := 4) (ret := none) (by decide) rfl (Nat.le_of_ble_eq_true rfl) (fun p e s m args below meth c A ls hx hb hr hml hlocks hnm hown hts hA hK hN hP hD hS hl => ?_)
  have hown : s.vm.findClass RX7 = some m.cls := hown
  have hl : lv_has ls 4 [(0, .ref (aT 0)), (1, .int x1)] := hl
  have hC : CallFix p m c cX7_readNumber 4 s args wsX7_readNumber RX7 := ⟨hx, hb, hml, hown, hts⟩
  have f9 : (Cond.fieldLink RX7 9 "IcePlant$Text" "numbers" "[I").before args s = true := hts _ (mC qf_X7_9)
  have f21 : (Cond.fieldLink RX7 21 "IcePlant$Text" "at" "I").before args s = true := hts _ (mC qf_X7_21)
  have f24 : (Cond.fieldLink RX7 24 "IcePlant$Text" "error" "I").before args s = true := hts _ (mC qf_X7_24)
  have iX7 : ∀ w ∈ wsX70, w ∈ wsX7_readNumber := fun w h => mC (iA_X7 w h)
  have h66 : ∀ (x1 : Int32) (x2 : Int32) (x3 : Int32) (mT : Mem), ∀  (H : Heap) (locs : List Loc) (ls : Array Slot), f_X7_readNumber_b66 x1 x2 x3 mT = some mT' → va_P D vwCl (W_T cy aT mT) H → va_D A (W_T cy aT mT) → va_S A s.heap H locs → lv_has ls 4 [(0, .ref (aT 0)), (1, .int x1), (2, .int x2), (3, .int x3)] → W p l e rm_X7_readNumber s m args below meth c H locs 0 0 (MQ below (QV D cy (W_T cy aT mT') A) args s 0 0 A) (F0 m 66 ls []) := by
    intro x1 x2 x3 mT H locs ls hE hP hD hS hl
    replace hE : (gi x1 3 (lt' (wrI mT 5 (upd (mT 5) x1.toNatClampNeg x2)) fun mT_1 => (if x3 = 0 then bd1 (f_X7_failHere mT_1) fun mT_10 => some mT_10 else bd1 (f_X7_sign mT_1) fun r_4 => bd1 (f_X7_isDigit r_4) fun r_6 => (if r_6 = 0 then some mT_1 else lt' (wrI mT_1 2 (fun _ => (2 : Int32))) fun mT_9 => some mT_9)))) = some mT' := hE
    refine lv_aload_n hx hb dX7_readNumber_66 rfl (lv_at hl 0 rfl) ?_
    refine va_get (D := D) (ci := 7) (v := .ref (aT 6)) (C := RX7) (T := TX7) (N := 8) hx hb hts iX7 hown hK hP 0 rfl rfl 5 (by decide) f9 (fun _ h9 => h9) rfl dX7_readNumber_67 ?_
    refine lv_iload_n hx hb dX7_readNumber_70 rfl (lv_at hl 1 rfl) ?_
    refine lv_iload_n hx hb dX7_readNumber_71 rfl (lv_at hl 2 rfl) ?_
    obtain ⟨g_2, hE⟩ := gi_el hE
    obtain ⟨mT_1, e_mT_1, hE⟩ := lt_el hE
    refine s_ia (ws1 := (W_T cy aT mT_1)) hx hb hK hP hD hS 1 rfl g_2 (by rw [e_mT_1]; rfl) dX7_readNumber_72 (fun H locs hP hD hS => ?_)
    refine lv_iload_n hx hb dX7_readNumber_73 rfl (lv_at hl 3 rfl) ?_
    refine lv_if_ne (tgt := 84) hx hb dX7_readNumber_74 (by decide) (fun c_3 => ?_) (fun c_3 => ?_)
    · replace hE := it_f hE c_3
      refine lv_aload_n hx hb dX7_readNumber_84 rfl (lv_at hl 0 rfl) ?_
      obtain ⟨r_4, hc_5, hE⟩ := bd1_el hE
      refine ki (X := []) (Y := []) (ws1 := (W_T cy aT mT_1)) (rV (X := []) (Y := []) (As := []) (rest := []) hC (c_X7_sign l D cy aT mT_1 r_4 hc_5) (cwV 0 hts gX7_readNumber_X7_sign rfl rfl rfl cd_X7_sign ⟨Nat.le_of_ble_eq_true rfl, Nat.le_of_ble_eq_true rfl⟩) hK hN hP hD hS hA rfl 0 7 rfl rfl rfl hl.1 rfl (lv_room (Nat.le_of_ble_eq_true rfl)) dX7_readNumber_85 ⟨Nat.le_of_ble_eq_true rfl, Nat.le_of_ble_eq_true rfl⟩) hP hD hS hA rfl rfl rfl (fun H locs hP hD hS => ?_)
      obtain ⟨r_6, hc_7, hE⟩ := bd1_el hE
      refine ki (X := []) (Y := (W_T cy aT mT_1)) (ws1 := (W_T cy aT mT_1)) (rS (X := []) (Y := (W_T cy aT mT_1)) (As := [.int r_4]) (rest := []) hC (c_X7_isDigit l D cy r_4 r_6 hc_7) (cwS 1 hts gX7_readNumber_X7_isDigit rfl rfl rfl cd_X7_isDigit ⟨Nat.le_of_ble_eq_true rfl, Nat.le_of_ble_eq_true rfl⟩) hK hN hP hD hS hA rfl rfl hl.1 rfl (lv_room (Nat.le_of_ble_eq_true rfl)) dX7_readNumber_88 ⟨Nat.le_of_ble_eq_true rfl, Nat.le_of_ble_eq_true rfl⟩) hP hD hS hA rfl rfl rfl (fun H locs hP hD hS => ?_)
      refine lv_if_eq (tgt := 99) hx hb dX7_readNumber_91 (by decide) (fun c_8 => ?_) (fun c_8 => ?_)
      · replace hE := it_t hE c_8
        have hE := Option.some.inj hE
        exact ev hx hb hr hlocks hK hP hD hS (by rw [hE]) dX7_readNumber_99
      · replace hE := it_f hE c_8
        refine lv_aload_n hx hb dX7_readNumber_94 rfl (lv_at hl 0 rfl) ?_
        refine lv_iconst (v := 2) hx hb dX7_readNumber_95 (by decide) ?_
        obtain ⟨mT_9, e_mT_9, hE⟩ := lt_el hE
        refine s_pf (own := RX7) (C := RX7) (T := TX7) (N := 8) (ci := 7) (ws1 := (W_T cy aT mT_9)) hx hb hts iX7 tyX7 tyX7_ok nmX7 hown hK hP hD hS 0 rfl rfl 2 (by decide) f24 rfl rfl rfl rfl (Nat.le_of_ble_eq_true rfl) (by rw [e_mT_9]; rfl) dX7_readNumber_96 (fun H locs hP hD hS => ?_)
        have hE := Option.some.inj hE
        exact ev hx hb hr hlocks hK hP hD hS (by rw [hE]) dX7_readNumber_99
    · replace hE := it_t hE c_3
      refine lv_aload_n hx hb dX7_readNumber_77 rfl (lv_at hl 0 rfl) ?_
      obtain ⟨mT_10, hc_11, hE⟩ := bd1_el hE
      refine kv (X := []) (Y := []) (ws1 := (W_T cy aT mT_10)) (rV (X := []) (Y := []) (As := []) (rest := []) hC (c_X7_failHere l D cy aT mT_1 mT_10 hc_11) (cwV 0 hts gX7_readNumber_X7_failHere rfl rfl rfl cd_X7_failHere ⟨Nat.le_of_ble_eq_true rfl, Nat.le_of_ble_eq_true rfl⟩) hK hN hP hD hS hA rfl 0 7 rfl rfl rfl hl.1 rfl (lv_room (Nat.le_of_ble_eq_true rfl)) dX7_readNumber_78 ⟨Nat.le_of_ble_eq_true rfl, Nat.le_of_ble_eq_true rfl⟩) hP hD hS hA rfl rfl rfl (fun H locs hP hD hS => ?_)
      refine lv_goto (tgt := 99) hx hb dX7_readNumber_81 (by decide) ?_
      have hE := Option.some.inj hE
      exact ev hx hb hr hlocks hK hP hD hS (by rw [hE]) dX7_readNumber_99
  have h21 : ∀ (x1 : Int32), ∀ (n : Nat), ∀ (x2 : Int32) (x3 : Int32) (mT : Mem) (H : Heap) (locs : List Loc) (ls : Array Slot), f_X7_readNumber_L21 x1 n x2 x3 mT = some mT' → va_P D vwCl (W_T cy aT mT) H → va_D A (W_T cy aT mT) → va_S A s.heap H locs → lv_has ls 4 [(0, .ref (aT 0)), (1, .int x1), (2, .int x2), (3, .int x3)] → W p l e rm_X7_readNumber s m args below meth c H locs 0 0 (MQ below (QV D cy (W_T cy aT mT') A) args s 0 0 A) (F0 m 21 ls []) := by
    intro x1 n
    induction n with
    | zero => intro x2 x3 mT H locs ls hE; exact absurd hE (fun h9 => nomatch h9)
    | succ n ih =>
      intro x2 x3 mT H locs ls hE hP hD hS hl
      replace hE : ((if (6 : Int32) ≤ x3 then f_X7_readNumber_b66 x1 x2 x3 mT else bd1 (f_X7_sign mT) fun r_13 => bd1 (f_X7_isDigit r_13) fun r_15 => (if r_15 = 0 then f_X7_readNumber_b66 x1 x2 x3 mT else bd1 (f_X7_sign mT) fun r_18 => lt' ((x2 * (10 : Int32)) + (r_18 - (48 : Int32))) fun x2_20 => lt' (x3 + (1 : Int32)) fun x3_21 => lt' (wrI mT 1 (fun _ => ((mT 1 0) + (1 : Int32)))) fun mT_22 => (f_X7_readNumber_L21 x1 n) x2_20 x3_21 mT_22))) = some mT' := hE
      refine lv_iload_n hx hb dX7_readNumber_21 rfl (lv_at hl 3 rfl) ?_
      refine lv_bipush (v := 6) hx hb dX7_readNumber_22 (by decide) ?_
      refine lv_icmp_ge (tgt := 66) hx hb dX7_readNumber_24 (by decide) (fun c_12 => ?_) (fun c_12 => ?_)
      · replace hE := it_t hE c_12
        exact h66 x1 x2 x3 mT _ _ _ hE hP hD hS (lv_sub hl [0, 1, 2, 3] rfl)
      · replace hE := it_f hE c_12
        refine lv_aload_n hx hb dX7_readNumber_27 rfl (lv_at hl 0 rfl) ?_
        obtain ⟨r_13, hc_14, hE⟩ := bd1_el hE
        refine ki (X := []) (Y := []) (ws1 := (W_T cy aT mT)) (rV (X := []) (Y := []) (As := []) (rest := []) hC (c_X7_sign l D cy aT mT r_13 hc_14) (cwV 0 hts gX7_readNumber_X7_sign rfl rfl rfl cd_X7_sign ⟨Nat.le_of_ble_eq_true rfl, Nat.le_of_ble_eq_true rfl⟩) hK hN hP hD hS hA rfl 0 7 rfl rfl rfl hl.1 rfl (lv_room (Nat.le_of_ble_eq_true rfl)) dX7_readNumber_28 ⟨Nat.le_of_ble_eq_true rfl, Nat.le_of_ble_eq_true rfl⟩) hP hD hS hA rfl rfl rfl (fun H locs hP hD hS => ?_)
        obtain ⟨r_15, hc_16, hE⟩ := bd1_el hE
        refine ki (X := []) (Y := (W_T cy aT mT)) (ws1 := (W_T cy aT mT)) (rS (X := []) (Y := (W_T cy aT mT)) (As := [.int r_13]) (rest := []) hC (c_X7_isDigit l D cy r_13 r_15 hc_16) (cwS 1 hts gX7_readNumber_X7_isDigit rfl rfl rfl cd_X7_isDigit ⟨Nat.le_of_ble_eq_true rfl, Nat.le_of_ble_eq_true rfl⟩) hK hN hP hD hS hA rfl rfl hl.1 rfl (lv_room (Nat.le_of_ble_eq_true rfl)) dX7_readNumber_31 ⟨Nat.le_of_ble_eq_true rfl, Nat.le_of_ble_eq_true rfl⟩) hP hD hS hA rfl rfl rfl (fun H locs hP hD hS => ?_)
        refine lv_if_eq (tgt := 66) hx hb dX7_readNumber_34 (by decide) (fun c_17 => ?_) (fun c_17 => ?_)
        · replace hE := it_t hE c_17
          exact h66 x1 x2 x3 mT _ _ _ hE hP hD hS (lv_sub hl [0, 1, 2, 3] rfl)
        · replace hE := it_f hE c_17
          refine lv_iload_n hx hb dX7_readNumber_37 rfl (lv_at hl 2 rfl) ?_
          refine lv_bipush (v := 10) hx hb dX7_readNumber_38 (by decide) ?_
          refine lv_imul hx hb dX7_readNumber_40 ?_
          refine lv_aload_n hx hb dX7_readNumber_41 rfl (lv_at hl 0 rfl) ?_
          obtain ⟨r_18, hc_19, hE⟩ := bd1_el hE
          refine ki (X := []) (Y := []) (ws1 := (W_T cy aT mT)) (rV (X := []) (Y := []) (As := []) (rest := [.int (x2 * (10 : Int32))]) hC (c_X7_sign l D cy aT mT r_18 hc_19) (cwV 0 hts gX7_readNumber_X7_sign rfl rfl rfl cd_X7_sign ⟨Nat.le_of_ble_eq_true rfl, Nat.le_of_ble_eq_true rfl⟩) hK hN hP hD hS hA rfl 0 7 rfl rfl rfl hl.1 rfl (lv_room (Nat.le_of_ble_eq_true rfl)) dX7_readNumber_42 ⟨Nat.le_of_ble_eq_true rfl, Nat.le_of_ble_eq_true rfl⟩) hP hD hS hA rfl rfl rfl (fun H locs hP hD hS => ?_)
          refine lv_bipush (v := 48) hx hb dX7_readNumber_45 (by decide) ?_
          refine lv_isub hx hb dX7_readNumber_47 ?_
          refine lv_iadd hx hb dX7_readNumber_48 ?_
          obtain ⟨x2_20, e_x2_20, hE⟩ := lt_el hE
          refine s_nm e_x2_20 ?_
          refine lv_istore_n (lv' := [(2, .int x2_20), (0, .ref (aT 0)), (1, .int x1), (3, .int x3)]) hx hb dX7_readNumber_49 rfl hl (by decide) rfl (fun ls hl => ?_)
          obtain ⟨x3_21, e_x3_21, hE⟩ := lt_el hE
          refine lv_iinc (v := x3_21) (lv' := [(3, .int x3_21), (2, .int x2_20), (0, .ref (aT 0)), (1, .int x1)]) hx hb dX7_readNumber_50 hl (k := 3) rfl (by rw [e_x3_21]; rfl) (by decide) rfl (fun ls hl => ?_)
          refine lv_aload_n hx hb dX7_readNumber_53 rfl (lv_at hl 2 rfl) ?_
          refine lv_dup hx hb dX7_readNumber_54 rfl ?_
          refine va_get (D := D) (ci := 7) (v := .int (mT 1 0)) (C := RX7) (T := TX7) (N := 8) hx hb hts iX7 hown hK hP 0 rfl rfl 1 (by decide) f21 (fun _ h9 => h9) rfl dX7_readNumber_55 ?_
          refine lv_iconst (v := 1) hx hb dX7_readNumber_58 (by decide) ?_
          refine lv_iadd hx hb dX7_readNumber_59 ?_
          obtain ⟨mT_22, e_mT_22, hE⟩ := lt_el hE
          refine s_pf (own := RX7) (C := RX7) (T := TX7) (N := 8) (ci := 7) (ws1 := (W_T cy aT mT_22)) hx hb hts iX7 tyX7 tyX7_ok nmX7 hown hK hP hD hS 0 rfl rfl 1 (by decide) f21 rfl rfl rfl rfl (Nat.le_of_ble_eq_true rfl) (by rw [e_mT_22]; rfl) dX7_readNumber_60 (fun H locs hP hD hS => ?_)
          refine lv_goto (tgt := 21) hx hb dX7_readNumber_63 (by decide) ?_
          exact ih x2_20 x3_21 mT_22 _ _ _ hE hP hD hS (lv_sub hl [2, 3, 1, 0] rfl)
  unfold f_X7_readNumber at hE
  refine lv_aload_n hx hb dX7_readNumber_0 rfl (lv_at hl 0 rfl) ?_
  refine va_get (D := D) (ci := 7) (v := .int (imT 2 0)) (C := RX7) (T := TX7) (N := 8) hx hb hts iX7 hown hK hP 0 rfl rfl 2 (by decide) f24 (fun _ h9 => h9) rfl dX7_readNumber_1 ?_
  refine lv_if_ne (tgt := 16) hx hb dX7_readNumber_4 (by decide) (fun c_23 => ?_) (fun c_23 => ?_)
  · replace hE := it_f hE c_23
    have hE := Option.some.inj hE
    exact ev hx hb hr hlocks hK hP hD hS (by rw [hE]) dX7_readNumber_16
  · replace hE := it_t hE c_23
    refine lv_iload_n hx hb dX7_readNumber_7 rfl (lv_at hl 1 rfl) ?_
    refine lv_aload_n hx hb dX7_readNumber_8 rfl (lv_at hl 0 rfl) ?_
    refine va_get (D := D) (ci := 7) (v := .ref (aT 6)) (C := RX7) (T := TX7) (N := 8) hx hb hts iX7 hown hK hP 0 rfl rfl 5 (by decide) f9 (fun _ h9 => h9) rfl dX7_readNumber_9 ?_
    refine va_alen hx hb hK hP 1 0 rfl rfl (v := (3 : Int32)) rfl dX7_readNumber_12 ?_
    refine lv_icmp_lt (tgt := 17) hx hb dX7_readNumber_13 (by decide) (fun c_24 => ?_) (fun c_24 => ?_)
    · replace hE := it_t hE c_24
      refine lv_iconst (v := 0) hx hb dX7_readNumber_17 (by decide) ?_
      refine lv_istore_n (lv' := [(2, .int (0 : Int32)), (0, .ref (aT 0)), (1, .int x1)]) hx hb dX7_readNumber_18 rfl hl (by decide) rfl (fun ls hl => ?_)
      refine lv_iconst (v := 0) hx hb dX7_readNumber_19 (by decide) ?_
      refine lv_istore_n (lv' := [(3, .int (0 : Int32)), (2, .int (0 : Int32)), (0, .ref (aT 0)), (1, .int x1)]) hx hb dX7_readNumber_20 rfl hl (by decide) rfl (fun ls hl => ?_)
      exact h21 x1 fuel (0 : Int32) (0 : Int32) imT _ _ _ hE hP hD hS (lv_sub hl [2, 3, 1, 0] rfl)
    · replace hE := it_f hE c_24
      have hE := Option.some.inj hE
      exact ev hx hb hr hlocks hK hP hD hS (by rw [hE]) dX7_readNumber_16
abbrev rm_X7_readSeparator : Room := { frames := 1, cells := 0, slots := 0, locals := 20 }
set_option maxHeartbeats 40000000 in
set_option maxRecDepth 100000 in
theorem c_X7_readSeparator (l : Launch) (D : va_G) (cy : Nat → Nat) (aT : Nat → Nat) (imT : Mem) (mT' : Mem) (hE : f_X7_readSeparator imT = some mT') : CV l yX7_readSeparator wsX7_readSeparator rm_X7_readSeparator D cy [.ref (aT 0)] (W_T cy aT imT) 0 0 (W_T cy aT mT') := by
  refine CQ_of (cc := cX7_readSeparator) (maxL := 1) (ret := none) (by decide) rfl (Nat.le_of_ble_eq_true rfl) (fun p e s m args below meth c A ls hx hb hr hml hlocks hnm hown hts hA hK hN hP hD hS hl => ?_)
  have hown : s.vm.findClass RX7 = some m.cls := hown
  have hl : lv_has ls 1 [(0, .ref (aT 0))] := hl
  have hC : CallFix p m c cX7_readSeparator 1 s args wsX7_readSeparator RX7 := ⟨hx, hb, hml, hown, hts⟩
  have f17 : (Cond.fieldLink RX7 17 "IcePlant$Text" "length" "I").before args s = true := hts _ (mC qf_X7_17)
  have f21 : (Cond.fieldLink RX7 21 "IcePlant$Text" "at" "I").before args s = true := hts _ (mC qf_X7_21)
  have f24 : (Cond.fieldLink RX7 24 "IcePlant$Text" "error" "I").before args s = true := hts _ (mC qf_X7_24)
  have f27 : (Cond.fieldLink RX7 27 "IcePlant$Text" "awaitsCommand" "Z").before args s = true := hts _ (mC qf_X7_27)
  have iX7 : ∀ w ∈ wsX70, w ∈ wsX7_readSeparator := fun w h => mC (iA_X7 w h)
  unfold f_X7_readSeparator at hE
  refine lv_aload_n hx hb dX7_readSeparator_0 rfl (lv_at hl 0 rfl) ?_
  refine va_get (D := D) (ci := 7) (v := .int (imT 2 0)) (C := RX7) (T := TX7) (N := 8) hx hb hts iX7 hown hK hP 0 rfl rfl 2 (by decide) f24 (fun _ h9 => h9) rfl dX7_readSeparator_1 ?_
  refine lv_if_eq (tgt := 8) hx hb dX7_readSeparator_4 (by decide) (fun c_1 => ?_) (fun c_1 => ?_)
  · replace hE := it_t hE c_1
    refine lv_aload_n hx hb dX7_readSeparator_8 rfl (lv_at hl 0 rfl) ?_
    obtain ⟨r_2, hc_3, hE⟩ := bd1_el hE
    refine ki (X := []) (Y := []) (ws1 := (W_T cy aT imT)) (rV (X := []) (Y := []) (As := []) (rest := []) hC (c_X7_sign l D cy aT imT r_2 hc_3) (cwV 0 hts gX7_readSeparator_X7_sign rfl rfl rfl cd_X7_sign ⟨Nat.le_of_ble_eq_true rfl, Nat.le_of_ble_eq_true rfl⟩) hK hN hP hD hS hA rfl 0 7 rfl rfl rfl hl.1 rfl (lv_room (Nat.le_of_ble_eq_true rfl)) dX7_readSeparator_9 ⟨Nat.le_of_ble_eq_true rfl, Nat.le_of_ble_eq_true rfl⟩) hP hD hS hA rfl rfl rfl (fun H locs hP hD hS => ?_)
    refine lv_bipush (v := 59) hx hb dX7_readSeparator_12 (by decide) ?_
    refine lv_icmp_ne (tgt := 30) hx hb dX7_readSeparator_14 (by decide) (fun c_4 => ?_) (fun c_4 => ?_)
    · replace hE := it_f hE c_4
      refine lv_aload_n hx hb dX7_readSeparator_30 rfl (lv_at hl 0 rfl) ?_
      refine va_get (D := D) (ci := 7) (v := .int (imT 1 0)) (C := RX7) (T := TX7) (N := 8) hx hb hts iX7 hown hK hP 0 rfl rfl 1 (by decide) f21 (fun _ h9 => h9) rfl dX7_readSeparator_31 ?_
      refine lv_aload_n hx hb dX7_readSeparator_34 rfl (lv_at hl 0 rfl) ?_
      refine va_get (D := D) (ci := 7) (v := .int (imT 0 0)) (C := RX7) (T := TX7) (N := 8) hx hb hts iX7 hown hK hP 0 rfl rfl 0 (by decide) f17 (fun _ h9 => h9) rfl dX7_readSeparator_35 ?_
      refine lv_icmp_ge (tgt := 48) hx hb dX7_readSeparator_38 (by decide) (fun c_5 => ?_) (fun c_5 => ?_)
      · replace hE := it_t hE c_5
        refine lv_aload_n hx hb dX7_readSeparator_48 rfl (lv_at hl 0 rfl) ?_
        refine lv_iconst (v := 0) hx hb dX7_readSeparator_49 (by decide) ?_
        obtain ⟨mT_6, e_mT_6, hE⟩ := lt_el hE
        refine s_pf (own := RX7) (C := RX7) (T := TX7) (N := 8) (ci := 7) (ws1 := (W_T cy aT mT_6)) hx hb hts iX7 tyX7 tyX7_ok nmX7 hown hK hP hD hS 0 rfl rfl 6 (by decide) f27 rfl rfl (by decide) (by decide) (Nat.le_of_ble_eq_true rfl) (by rw [e_mT_6]; rfl) dX7_readSeparator_50 (fun H locs hP hD hS => ?_)
        have hE := Option.some.inj hE
        exact ev hx hb hr hlocks hK hP hD hS (by rw [hE]) dX7_readSeparator_53
      · replace hE := it_f hE c_5
        refine lv_aload_n hx hb dX7_readSeparator_41 rfl (lv_at hl 0 rfl) ?_
        obtain ⟨mT_7, hc_8, hE⟩ := bd1_el hE
        refine kv (X := []) (Y := []) (ws1 := (W_T cy aT mT_7)) (rV (X := []) (Y := []) (As := []) (rest := []) hC (c_X7_failHere l D cy aT imT mT_7 hc_8) (cwV 0 hts gX7_readSeparator_X7_failHere rfl rfl rfl cd_X7_failHere ⟨Nat.le_of_ble_eq_true rfl, Nat.le_of_ble_eq_true rfl⟩) hK hN hP hD hS hA rfl 0 7 rfl rfl rfl hl.1 rfl (lv_room (Nat.le_of_ble_eq_true rfl)) dX7_readSeparator_42 ⟨Nat.le_of_ble_eq_true rfl, Nat.le_of_ble_eq_true rfl⟩) hP hD hS hA rfl rfl rfl (fun H locs hP hD hS => ?_)
        refine lv_goto (tgt := 53) hx hb dX7_readSeparator_45 (by decide) ?_
        have hE := Option.some.inj hE
        exact ev hx hb hr hlocks hK hP hD hS (by rw [hE]) dX7_readSeparator_53
    · replace hE := it_t hE c_4
      refine lv_aload_n hx hb dX7_readSeparator_17 rfl (lv_at hl 0 rfl) ?_
      refine lv_dup hx hb dX7_readSeparator_18 rfl ?_
      refine va_get (D := D) (ci := 7) (v := .int (imT 1 0)) (C := RX7) (T := TX7) (N := 8) hx hb hts iX7 hown hK hP 0 rfl rfl 1 (by decide) f21 (fun _ h9 => h9) rfl dX7_readSeparator_19 ?_
      refine lv_iconst (v := 1) hx hb dX7_readSeparator_22 (by decide) ?_
      refine lv_iadd hx hb dX7_readSeparator_23 ?_
      obtain ⟨mT_9, e_mT_9, hE⟩ := lt_el hE
      refine s_pf (own := RX7) (C := RX7) (T := TX7) (N := 8) (ci := 7) (ws1 := (W_T cy aT mT_9)) hx hb hts iX7 tyX7 tyX7_ok nmX7 hown hK hP hD hS 0 rfl rfl 1 (by decide) f21 rfl rfl rfl rfl (Nat.le_of_ble_eq_true rfl) (by rw [e_mT_9]; rfl) dX7_readSeparator_24 (fun H locs hP hD hS => ?_)
      refine lv_goto (tgt := 53) hx hb dX7_readSeparator_27 (by decide) ?_
      have hE := Option.some.inj hE
      exact ev hx hb hr hlocks hK hP hD hS (by rw [hE]) dX7_readSeparator_53
  · replace hE := it_f hE c_1
    have hE := Option.some.inj hE
    exact ev hx hb hr hlocks hK hP hD hS (by rw [hE]) dX7_readSeparator_7
abbrev rm_X7_readCommand : Room := { frames := 2, cells := 0, slots := 0, locals := 43 }
set_option maxHeartbeats 40000000 in
set_option maxRecDepth 100000 in
theorem c_X7_readCommand (l : Launch) (D : va_G) (cy : Nat → Nat) (aT : Nat → Nat) (imT : Mem) (mT' : Mem) (hE : f_X7_readCommand imT = some mT') : CV l yX7_readCommand wsX7_readCommand rm_X7_readCommand D cy [.ref (aT 0)] (W_T cy aT imT) 0 0 (W_T cy aT mT') := by
  refine CQ_of (cc := cX7_readCommand) (maxL := 3) (ret := none) (by decide) rfl (Nat.le_of_ble_eq_true rfl) (fun p e s m args below meth c A ls hx hb hr hml hlocks hnm hown hts hA hK hN hP hD hS hl => ?_)
  have hown : s.vm.findClass RX7 = some m.cls := hown
  have hl : lv_has ls 3 [(0, .ref (aT 0))] := hl
  have hC : CallFix p m c cX7_readCommand 3 s args wsX7_readCommand RX7 := ⟨hx, hb, hml, hown, hts⟩
  have f21 : (Cond.fieldLink RX7 21 "IcePlant$Text" "at" "I").before args s = true := hts _ (mC qf_X7_21)
  have f24 : (Cond.fieldLink RX7 24 "IcePlant$Text" "error" "I").before args s = true := hts _ (mC qf_X7_24)
  have f45 : (Cond.fieldLink RX7 45 "IcePlant$Text" "letter" "C").before args s = true := hts _ (mC qf_X7_45)
  have f63 : (Cond.fieldLink RX7 63 "IcePlant$Text" "marked" "Z").before args s = true := hts _ (mC qf_X7_63)
  have iX7 : ∀ w ∈ wsX70, w ∈ wsX7_readCommand := fun w h => mC (iA_X7 w h)
  have h119 : ∀ (mT : Mem), ∀  (H : Heap) (locs : List Loc) (ls : Array Slot), f_X7_readCommand_b119 mT = some mT' → va_P D vwCl (W_T cy aT mT) H → va_D A (W_T cy aT mT) → va_S A s.heap H locs → lv_has ls 3 [(0, .ref (aT 0))] → W p l e rm_X7_readCommand s m args below meth c H locs 0 0 (MQ below (QV D cy (W_T cy aT mT') A) args s 0 0 A) (F0 m 119 ls []) := by
    intro mT H locs ls hE hP hD hS hl
    replace hE : (bd1 (f_X7_readSeparator mT) fun mT_1 => some mT_1) = some mT' := hE
    refine lv_aload_n hx hb dX7_readCommand_119 rfl (lv_at hl 0 rfl) ?_
    obtain ⟨mT_1, hc_2, hE⟩ := bd1_el hE
    refine kv (X := []) (Y := []) (ws1 := (W_T cy aT mT_1)) (rV (X := []) (Y := []) (As := []) (rest := []) hC (c_X7_readSeparator l D cy aT mT mT_1 hc_2) (cwV 0 hts gX7_readCommand_X7_readSeparator rfl rfl rfl cd_X7_readSeparator ⟨Nat.le_of_ble_eq_true rfl, Nat.le_of_ble_eq_true rfl⟩) hK hN hP hD hS hA rfl 0 7 rfl rfl rfl hl.1 rfl (lv_room (Nat.le_of_ble_eq_true rfl)) dX7_readCommand_120 ⟨Nat.le_of_ble_eq_true rfl, Nat.le_of_ble_eq_true rfl⟩) hP hD hS hA rfl rfl rfl (fun H locs hP hD hS => ?_)
    have hE := Option.some.inj hE
    exact ev hx hb hr hlocks hK hP hD hS (by rw [hE]) dX7_readCommand_123
  have h99 : ∀ (t0 : Int32) (mT : Mem), ∀  (H : Heap) (locs : List Loc) (ls : Array Slot), f_X7_readCommand_b99 t0 mT = some mT' → va_P D vwCl (W_T cy aT mT) H → va_D A (W_T cy aT mT) → va_S A s.heap H locs → lv_has ls 3 [(0, .ref (aT 0))] → W p l e rm_X7_readCommand s m args below meth c H locs 0 0 (MQ below (QV D cy (W_T cy aT mT') A) args s 0 0 A) (F0 m 99 ls [.int t0, .ref (aT 0)]) := by
    intro t0 mT H locs ls hE hP hD hS hl
    replace hE : (gb t0 (lt' (wrI mT 4 (fun _ => t0)) fun mT_3 => (if (mT_3 4 0) = 0 then f_X7_readCommand_b119 mT_3 else lt' (wrI mT_3 1 (fun _ => ((mT_3 1 0) + (1 : Int32)))) fun mT_6 => f_X7_readCommand_b119 mT_6))) = some mT' := hE
    obtain ⟨g_4, hE⟩ := gb_el hE
    obtain ⟨mT_3, e_mT_3, hE⟩ := lt_el hE
    refine s_pf (own := RX7) (C := RX7) (T := TX7) (N := 8) (ci := 7) (ws1 := (W_T cy aT mT_3)) hx hb hts iX7 tyX7 tyX7_ok nmX7 hown hK hP hD hS 0 rfl rfl 4 (by decide) f63 rfl rfl (gb_n g_4) (gb_f g_4) (Nat.le_of_ble_eq_true rfl) (by rw [e_mT_3]; rfl) dX7_readCommand_99 (fun H locs hP hD hS => ?_)
    refine lv_aload_n hx hb dX7_readCommand_102 rfl (lv_at hl 0 rfl) ?_
    refine va_get (D := D) (ci := 7) (v := .int (mT_3 4 0)) (C := RX7) (T := TX7) (N := 8) hx hb hts iX7 hown hK hP 0 rfl rfl 4 (by decide) f63 (fun _ h9 => h9) rfl dX7_readCommand_103 ?_
    refine lv_if_eq (tgt := 119) hx hb dX7_readCommand_106 (by decide) (fun c_5 => ?_) (fun c_5 => ?_)
    · replace hE := it_t hE c_5
      exact h119 mT_3 _ _ _ hE hP hD hS (lv_sub hl [0] rfl)
    · replace hE := it_f hE c_5
      refine lv_aload_n hx hb dX7_readCommand_109 rfl (lv_at hl 0 rfl) ?_
      refine lv_dup hx hb dX7_readCommand_110 rfl ?_
      refine va_get (D := D) (ci := 7) (v := .int (mT_3 1 0)) (C := RX7) (T := TX7) (N := 8) hx hb hts iX7 hown hK hP 0 rfl rfl 1 (by decide) f21 (fun _ h9 => h9) rfl dX7_readCommand_111 ?_
      refine lv_iconst (v := 1) hx hb dX7_readCommand_114 (by decide) ?_
      refine lv_iadd hx hb dX7_readCommand_115 ?_
      obtain ⟨mT_6, e_mT_6, hE⟩ := lt_el hE
      refine s_pf (own := RX7) (C := RX7) (T := TX7) (N := 8) (ci := 7) (ws1 := (W_T cy aT mT_6)) hx hb hts iX7 tyX7 tyX7_ok nmX7 hown hK hP hD hS 0 rfl rfl 1 (by decide) f21 rfl rfl rfl rfl (Nat.le_of_ble_eq_true rfl) (by rw [e_mT_6]; rfl) dX7_readCommand_116 (fun H locs hP hD hS => ?_)
      exact h119 mT_6 _ _ _ hE hP hD hS (lv_sub hl [0] rfl)
  have h98 : ∀ (mT : Mem), ∀  (H : Heap) (locs : List Loc) (ls : Array Slot), f_X7_readCommand_b98 mT = some mT' → va_P D vwCl (W_T cy aT mT) H → va_D A (W_T cy aT mT) → va_S A s.heap H locs → lv_has ls 3 [(0, .ref (aT 0))] → W p l e rm_X7_readCommand s m args below meth c H locs 0 0 (MQ below (QV D cy (W_T cy aT mT') A) args s 0 0 A) (F0 m 98 ls [.ref (aT 0)]) := by
    intro mT H locs ls hE hP hD hS hl
    replace hE : (f_X7_readCommand_b99 (0 : Int32) mT) = some mT' := hE
    refine lv_iconst (v := 0) hx hb dX7_readCommand_98 (by decide) ?_
    exact h99 (0 : Int32) mT _ _ _ hE hP hD hS (lv_sub hl [0] rfl)
  have h68 : ∀ (mT : Mem), ∀  (H : Heap) (locs : List Loc) (ls : Array Slot), f_X7_readCommand_b68 mT = some mT' → va_P D vwCl (W_T cy aT mT) H → va_D A (W_T cy aT mT) → va_S A s.heap H locs → lv_has ls 3 [(0, .ref (aT 0))] → W p l e rm_X7_readCommand s m args below meth c H locs 0 0 (MQ below (QV D cy (W_T cy aT mT') A) args s 0 0 A) (F0 m 68 ls []) := by
    intro mT H locs ls hE hP hD hS hl
    replace hE : ((if (mT 2 0) = 0 then (if (mT 3 0) = (111 : Int32) then bd1 (f_X7_sign mT) fun r_9 => (if r_9 = (33 : Int32) then f_X7_readCommand_b99 (1 : Int32) mT else f_X7_readCommand_b98 mT) else f_X7_readCommand_b98 mT) else f_X7_readCommand_b98 mT)) = some mT' := hE
    refine lv_aload_n hx hb dX7_readCommand_68 rfl (lv_at hl 0 rfl) ?_
    refine lv_aload_n hx hb dX7_readCommand_69 rfl (lv_at hl 0 rfl) ?_
    refine va_get (D := D) (ci := 7) (v := .int (mT 2 0)) (C := RX7) (T := TX7) (N := 8) hx hb hts iX7 hown hK hP 0 rfl rfl 2 (by decide) f24 (fun _ h9 => h9) rfl dX7_readCommand_70 ?_
    refine lv_if_ne (tgt := 98) hx hb dX7_readCommand_73 (by decide) (fun c_7 => ?_) (fun c_7 => ?_)
    · replace hE := it_f hE c_7
      exact h98 mT _ _ _ hE hP hD hS (lv_sub hl [0] rfl)
    · replace hE := it_t hE c_7
      refine lv_aload_n hx hb dX7_readCommand_76 rfl (lv_at hl 0 rfl) ?_
      refine va_get (D := D) (ci := 7) (v := .int (mT 3 0)) (C := RX7) (T := TX7) (N := 8) hx hb hts iX7 hown hK hP 0 rfl rfl 3 (by decide) f45 (fun _ h9 => h9) rfl dX7_readCommand_77 ?_
      refine lv_bipush (v := 111) hx hb dX7_readCommand_80 (by decide) ?_
      refine lv_icmp_ne (tgt := 98) hx hb dX7_readCommand_82 (by decide) (fun c_8 => ?_) (fun c_8 => ?_)
      · replace hE := it_f hE c_8
        exact h98 mT _ _ _ hE hP hD hS (lv_sub hl [0] rfl)
      · replace hE := it_t hE c_8
        refine lv_aload_n hx hb dX7_readCommand_85 rfl (lv_at hl 0 rfl) ?_
        obtain ⟨r_9, hc_10, hE⟩ := bd1_el hE
        refine ki (X := []) (Y := []) (ws1 := (W_T cy aT mT)) (rV (X := []) (Y := []) (As := []) (rest := [.ref (aT 0)]) hC (c_X7_sign l D cy aT mT r_9 hc_10) (cwV 0 hts gX7_readCommand_X7_sign rfl rfl rfl cd_X7_sign ⟨Nat.le_of_ble_eq_true rfl, Nat.le_of_ble_eq_true rfl⟩) hK hN hP hD hS hA rfl 0 7 rfl rfl rfl hl.1 rfl (lv_room (Nat.le_of_ble_eq_true rfl)) dX7_readCommand_86 ⟨Nat.le_of_ble_eq_true rfl, Nat.le_of_ble_eq_true rfl⟩) hP hD hS hA rfl rfl rfl (fun H locs hP hD hS => ?_)
        refine lv_bipush (v := 33) hx hb dX7_readCommand_89 (by decide) ?_
        refine lv_icmp_ne (tgt := 98) hx hb dX7_readCommand_91 (by decide) (fun c_11 => ?_) (fun c_11 => ?_)
        · replace hE := it_f hE c_11
          exact h98 mT _ _ _ hE hP hD hS (lv_sub hl [0] rfl)
        · replace hE := it_t hE c_11
          refine lv_iconst (v := 1) hx hb dX7_readCommand_94 (by decide) ?_
          refine lv_goto (tgt := 99) hx hb dX7_readCommand_95 (by decide) ?_
          exact h99 (1 : Int32) mT _ _ _ hE hP hD hS (lv_sub hl [0] rfl)
  have h57 : ∀ (x1 : Int32) (x2 : Int32) (mT : Mem), ∀ (k37 : (Int32 → Mem → Option (Mem))), (∀ (x2 : Int32) (mT : Mem) (H : Heap) (locs : List Loc) (ls : Array Slot), k37 x2 mT = some mT' → va_P D vwCl (W_T cy aT mT) H → va_D A (W_T cy aT mT) → va_S A s.heap H locs → lv_has ls 3 [(0, .ref (aT 0)), (1, .int x1), (2, .int x2)] → W p l e rm_X7_readCommand s m args below meth c H locs 0 0 (MQ below (QV D cy (W_T cy aT mT') A) args s 0 0 A) (F0 m 37 ls [])) → ∀  (H : Heap) (locs : List Loc) (ls : Array Slot), f_X7_readCommand_b57 k37 x1 x2 mT = some mT' → va_P D vwCl (W_T cy aT mT) H → va_D A (W_T cy aT mT) → va_S A s.heap H locs → lv_has ls 3 [(0, .ref (aT 0)), (1, .int x1), (2, .int x2)] → W p l e rm_X7_readCommand s m args below meth c H locs 0 0 (MQ below (QV D cy (W_T cy aT mT') A) args s 0 0 A) (F0 m 57 ls []) := by
    intro x1 x2 mT k37 hk37 H locs ls hE hP hD hS hl
    replace hE : (bd1 (f_X7_readNumber x2 mT) fun mT_12 => lt' (x2 + (1 : Int32)) fun x2_14 => k37 x2_14 mT_12) = some mT' := hE
    refine lv_aload_n hx hb dX7_readCommand_57 rfl (lv_at hl 0 rfl) ?_
    refine lv_iload_n hx hb dX7_readCommand_58 rfl (lv_at hl 2 rfl) ?_
    obtain ⟨mT_12, hc_13, hE⟩ := bd1_el hE
    refine kv (X := []) (Y := []) (ws1 := (W_T cy aT mT_12)) (rV (X := []) (Y := []) (As := [.int x2]) (rest := []) hC (c_X7_readNumber l D cy aT x2 mT mT_12 hc_13) (cwV 1 hts gX7_readCommand_X7_readNumber rfl rfl rfl cd_X7_readNumber ⟨Nat.le_of_ble_eq_true rfl, Nat.le_of_ble_eq_true rfl⟩) hK hN hP hD hS hA rfl 0 7 rfl rfl rfl hl.1 rfl (lv_room (Nat.le_of_ble_eq_true rfl)) dX7_readCommand_59 ⟨Nat.le_of_ble_eq_true rfl, Nat.le_of_ble_eq_true rfl⟩) hP hD hS hA rfl rfl rfl (fun H locs hP hD hS => ?_)
    obtain ⟨x2_14, e_x2_14, hE⟩ := lt_el hE
    refine lv_iinc (v := x2_14) (lv' := [(2, .int x2_14), (0, .ref (aT 0)), (1, .int x1)]) hx hb dX7_readCommand_62 hl (k := 2) rfl (by rw [e_x2_14]; rfl) (by decide) rfl (fun ls hl => ?_)
    refine lv_goto (tgt := 37) hx hb dX7_readCommand_65 (by decide) ?_
    exact hk37 x2_14 mT_12 _ _ _ hE hP hD hS (lv_sub hl [1, 2, 0] rfl)
  have h37 : ∀ (x1 : Int32), ∀ (n : Nat), ∀ (x2 : Int32) (mT : Mem) (H : Heap) (locs : List Loc) (ls : Array Slot), f_X7_readCommand_L37 x1 n x2 mT = some mT' → va_P D vwCl (W_T cy aT mT) H → va_D A (W_T cy aT mT) → va_S A s.heap H locs → lv_has ls 3 [(0, .ref (aT 0)), (1, .int x1), (2, .int x2)] → W p l e rm_X7_readCommand s m args below meth c H locs 0 0 (MQ below (QV D cy (W_T cy aT mT') A) args s 0 0 A) (F0 m 37 ls []) := by
    intro x1 n
    induction n with
    | zero => intro x2 mT H locs ls hE; exact absurd hE (fun h9 => nomatch h9)
    | succ n ih =>
      intro x2 mT H locs ls hE hP hD hS hl
      replace hE : ((if x1 ≤ x2 then f_X7_readCommand_b68 mT else (if (mT 2 0) = 0 then (if x2 ≤ 0 then f_X7_readCommand_b57 (f_X7_readCommand_L37 x1 n) x1 x2 mT else bd1 (f_X7_readComma mT) fun mT_18 => f_X7_readCommand_b57 (f_X7_readCommand_L37 x1 n) x1 x2 mT_18) else f_X7_readCommand_b68 mT))) = some mT' := hE
      refine lv_iload_n hx hb dX7_readCommand_37 rfl (lv_at hl 2 rfl) ?_
      refine lv_iload_n hx hb dX7_readCommand_38 rfl (lv_at hl 1 rfl) ?_
      refine lv_icmp_ge (tgt := 68) hx hb dX7_readCommand_39 (by decide) (fun c_15 => ?_) (fun c_15 => ?_)
      · replace hE := it_t hE c_15
        exact h68 mT _ _ _ hE hP hD hS (lv_sub hl [0] rfl)
      · replace hE := it_f hE c_15
        refine lv_aload_n hx hb dX7_readCommand_42 rfl (lv_at hl 0 rfl) ?_
        refine va_get (D := D) (ci := 7) (v := .int (mT 2 0)) (C := RX7) (T := TX7) (N := 8) hx hb hts iX7 hown hK hP 0 rfl rfl 2 (by decide) f24 (fun _ h9 => h9) rfl dX7_readCommand_43 ?_
        refine lv_if_ne (tgt := 68) hx hb dX7_readCommand_46 (by decide) (fun c_16 => ?_) (fun c_16 => ?_)
        · replace hE := it_f hE c_16
          exact h68 mT _ _ _ hE hP hD hS (lv_sub hl [0] rfl)
        · replace hE := it_t hE c_16
          refine lv_iload_n hx hb dX7_readCommand_49 rfl (lv_at hl 2 rfl) ?_
          refine lv_if_le (tgt := 57) hx hb dX7_readCommand_50 (by decide) (fun c_17 => ?_) (fun c_17 => ?_)
          · replace hE := it_t hE c_17
            exact h57 x1 x2 mT (f_X7_readCommand_L37 x1 n) ih _ _ _ hE hP hD hS (lv_sub hl [0, 1, 2] rfl)
          · replace hE := it_f hE c_17
            refine lv_aload_n hx hb dX7_readCommand_53 rfl (lv_at hl 0 rfl) ?_
            obtain ⟨mT_18, hc_19, hE⟩ := bd1_el hE
            refine kv (X := []) (Y := []) (ws1 := (W_T cy aT mT_18)) (rV (X := []) (Y := []) (As := []) (rest := []) hC (c_X7_readComma l D cy aT mT mT_18 hc_19) (cwV 0 hts gX7_readCommand_X7_readComma rfl rfl rfl cd_X7_readComma ⟨Nat.le_of_ble_eq_true rfl, Nat.le_of_ble_eq_true rfl⟩) hK hN hP hD hS hA rfl 0 7 rfl rfl rfl hl.1 rfl (lv_room (Nat.le_of_ble_eq_true rfl)) dX7_readCommand_54 ⟨Nat.le_of_ble_eq_true rfl, Nat.le_of_ble_eq_true rfl⟩) hP hD hS hA rfl rfl rfl (fun H locs hP hD hS => ?_)
            exact h57 x1 x2 mT_18 (f_X7_readCommand_L37 x1 n) ih _ _ _ hE hP hD hS (lv_sub hl [0, 1, 2] rfl)
  unfold f_X7_readCommand at hE
  refine lv_aload_n hx hb dX7_readCommand_0 rfl (lv_at hl 0 rfl) ?_
  refine lv_aload_n hx hb dX7_readCommand_1 rfl (lv_at hl 0 rfl) ?_
  obtain ⟨r_20, hc_21, hE⟩ := bd1_el hE
  refine ki (X := []) (Y := []) (ws1 := (W_T cy aT imT)) (rV (X := []) (Y := []) (As := []) (rest := [.ref (aT 0)]) hC (c_X7_sign l D cy aT imT r_20 hc_21) (cwV 0 hts gX7_readCommand_X7_sign rfl rfl rfl cd_X7_sign ⟨Nat.le_of_ble_eq_true rfl, Nat.le_of_ble_eq_true rfl⟩) hK hN hP hD hS hA rfl 0 7 rfl rfl rfl hl.1 rfl (lv_room (Nat.le_of_ble_eq_true rfl)) dX7_readCommand_2 ⟨Nat.le_of_ble_eq_true rfl, Nat.le_of_ble_eq_true rfl⟩) hP hD hS hA rfl rfl rfl (fun H locs hP hD hS => ?_)
  obtain ⟨g_23, hE⟩ := gch_el hE
  obtain ⟨mT_22, e_mT_22, hE⟩ := lt_el hE
  refine s_pf (own := RX7) (C := RX7) (T := TX7) (N := 8) (ci := 7) (ws1 := (W_T cy aT mT_22)) hx hb hts iX7 tyX7 tyX7_ok nmX7 hown hK hP hD hS 0 rfl rfl 3 (by decide) f45 rfl rfl (gch_n g_23) (gch_f g_23) (Nat.le_of_ble_eq_true rfl) (by rw [e_mT_22]; rfl) dX7_readCommand_5 (fun H locs hP hD hS => ?_)
  refine lv_aload_n hx hb dX7_readCommand_8 rfl (lv_at hl 0 rfl) ?_
  refine va_get (D := D) (ci := 7) (v := .int (mT_22 3 0)) (C := RX7) (T := TX7) (N := 8) hx hb hts iX7 hown hK hP 0 rfl rfl 3 (by decide) f45 (fun _ h9 => h9) rfl dX7_readCommand_9 ?_
  obtain ⟨r_24, hc_25, hE⟩ := bd1_el hE
  refine ki (X := []) (Y := (W_T cy aT mT_22)) (ws1 := (W_T cy aT mT_22)) (rS (X := []) (Y := (W_T cy aT mT_22)) (As := [.int (mT_22 3 0)]) (rest := []) hC (c_X7_numbersBehind l D cy (mT_22 3 0) r_24 hc_25) (cwS 1 hts gX7_readCommand_X7_numbersBehind rfl rfl rfl cd_X7_numbersBehind ⟨Nat.le_of_ble_eq_true rfl, Nat.le_of_ble_eq_true rfl⟩) hK hN hP hD hS hA rfl rfl hl.1 rfl (lv_room (Nat.le_of_ble_eq_true rfl)) dX7_readCommand_12 ⟨Nat.le_of_ble_eq_true rfl, Nat.le_of_ble_eq_true rfl⟩) hP hD hS hA rfl rfl rfl (fun H locs hP hD hS => ?_)
  refine lv_istore_n (lv' := [(1, .int r_24), (0, .ref (aT 0))]) hx hb dX7_readCommand_15 rfl hl (by decide) rfl (fun ls hl => ?_)
  refine lv_iload_n hx hb dX7_readCommand_16 rfl (lv_at hl 0 rfl) ?_
  refine lv_if_ne (tgt := 25) hx hb dX7_readCommand_17 (by decide) (fun c_26 => ?_) (fun c_26 => ?_)
  · replace hE := it_f hE c_26
    refine lv_aload_n hx hb dX7_readCommand_25 rfl (lv_at hl 1 rfl) ?_
    refine lv_dup hx hb dX7_readCommand_26 rfl ?_
    refine va_get (D := D) (ci := 7) (v := .int (mT_22 1 0)) (C := RX7) (T := TX7) (N := 8) hx hb hts iX7 hown hK hP 0 rfl rfl 1 (by decide) f21 (fun _ h9 => h9) rfl dX7_readCommand_27 ?_
    refine lv_iconst (v := 1) hx hb dX7_readCommand_30 (by decide) ?_
    refine lv_iadd hx hb dX7_readCommand_31 ?_
    obtain ⟨mT_27, e_mT_27, hE⟩ := lt_el hE
    refine s_pf (own := RX7) (C := RX7) (T := TX7) (N := 8) (ci := 7) (ws1 := (W_T cy aT mT_27)) hx hb hts iX7 tyX7 tyX7_ok nmX7 hown hK hP hD hS 0 rfl rfl 1 (by decide) f21 rfl rfl rfl rfl (Nat.le_of_ble_eq_true rfl) (by rw [e_mT_27]; rfl) dX7_readCommand_32 (fun H locs hP hD hS => ?_)
    refine lv_iconst (v := 0) hx hb dX7_readCommand_35 (by decide) ?_
    refine lv_istore_n (lv' := [(2, .int (0 : Int32)), (1, .int r_24), (0, .ref (aT 0))]) hx hb dX7_readCommand_36 rfl hl (by decide) rfl (fun ls hl => ?_)
    exact h37 r_24 fuel (0 : Int32) mT_27 _ _ _ hE hP hD hS (lv_sub hl [2, 1, 0] rfl)
  · replace hE := it_t hE c_26
    refine lv_aload_n hx hb dX7_readCommand_20 rfl (lv_at hl 1 rfl) ?_
    obtain ⟨mT_28, hc_29, hE⟩ := bd1_el hE
    refine kv (X := []) (Y := []) (ws1 := (W_T cy aT mT_28)) (rV (X := []) (Y := []) (As := []) (rest := []) hC (c_X7_failHere l D cy aT mT_22 mT_28 hc_29) (cwV 0 hts gX7_readCommand_X7_failHere rfl rfl rfl cd_X7_failHere ⟨Nat.le_of_ble_eq_true rfl, Nat.le_of_ble_eq_true rfl⟩) hK hN hP hD hS hA rfl 0 7 rfl rfl rfl hl.1 rfl (lv_room (Nat.le_of_ble_eq_true rfl)) dX7_readCommand_21 ⟨Nat.le_of_ble_eq_true rfl, Nat.le_of_ble_eq_true rfl⟩) hP hD hS hA rfl rfl rfl (fun H locs hP hD hS => ?_)
    have hE := Option.some.inj hE
    exact ev hx hb hr hlocks hK hP hD hS (by rw [hE]) dX7_readCommand_24
abbrev rm_X7_readAll : Room := { frames := 3, cells := 0, slots := 0, locals := 65 }
set_option maxHeartbeats 40000000 in
set_option maxRecDepth 100000 in
theorem c_X7_readAll (l : Launch) (D : va_G) (cy : Nat → Nat) (aT : Nat → Nat) (imT : Mem) (mT' : Mem) (hE : f_X7_readAll imT = some mT') : CV l yX7_readAll wsX7_readAll rm_X7_readAll D cy [.ref (aT 0)] (W_T cy aT imT) 0 0 (W_T cy aT mT') := by
  refine CQ_of (cc := cX7_readAll) (maxL := 2) (ret := none) (by decide) rfl (Nat.le_of_ble_eq_true rfl) (fun p e s m args below meth c A ls hx hb hr hml hlocks hnm hown hts hA hK hN hP hD hS hl => ?_)
  have hown : s.vm.findClass RX7 = some m.cls := hown
  have hl : lv_has ls 2 [(0, .ref (aT 0))] := hl
  have hC : CallFix p m c cX7_readAll 2 s args wsX7_readAll RX7 := ⟨hx, hb, hml, hown, hts⟩
  have h6 : ∀ (n : Nat), ∀ (x1 : Int32) (mT : Mem) (H : Heap) (locs : List Loc) (ls : Array Slot), f_X7_readAll_L6 n x1 mT = some mT' → va_P D vwCl (W_T cy aT mT) H → va_D A (W_T cy aT mT) → va_S A s.heap H locs → lv_has ls 2 [(0, .ref (aT 0)), (1, .int x1)] → W p l e rm_X7_readAll s m args below meth c H locs 0 0 (MQ below (QV D cy (W_T cy aT mT') A) args s 0 0 A) (F0 m 6 ls []) := by
    intro n
    induction n with
    | zero => intro x1 mT H locs ls hE; exact absurd hE (fun h9 => nomatch h9)
    | succ n ih =>
      intro x1 mT H locs ls hE hP hD hS hl
      replace hE : ((if (120 : Int32) ≤ x1 then some mT else bd1 (f_X7_hasCommand mT) fun r_2 => (if r_2 = 0 then some mT else bd1 (f_X7_readCommand mT) fun mT_5 => lt' (x1 + (1 : Int32)) fun x1_7 => (f_X7_readAll_L6 n) x1_7 mT_5))) = some mT' := hE
      refine lv_iload_n hx hb dX7_readAll_6 rfl (lv_at hl 1 rfl) ?_
      refine lv_bipush (v := 120) hx hb dX7_readAll_7 (by decide) ?_
      refine lv_icmp_ge (tgt := 29) hx hb dX7_readAll_9 (by decide) (fun c_1 => ?_) (fun c_1 => ?_)
      · replace hE := it_t hE c_1
        have hE := Option.some.inj hE
        exact ev hx hb hr hlocks hK hP hD hS (by rw [hE]) dX7_readAll_29
      · replace hE := it_f hE c_1
        refine lv_aload_n hx hb dX7_readAll_12 rfl (lv_at hl 0 rfl) ?_
        obtain ⟨r_2, hc_3, hE⟩ := bd1_el hE
        refine ki (X := []) (Y := []) (ws1 := (W_T cy aT mT)) (rV (X := []) (Y := []) (As := []) (rest := []) hC (c_X7_hasCommand l D cy aT mT r_2 hc_3) (cwV 0 hts gX7_readAll_X7_hasCommand rfl rfl rfl cd_X7_hasCommand ⟨Nat.le_of_ble_eq_true rfl, Nat.le_of_ble_eq_true rfl⟩) hK hN hP hD hS hA rfl 0 7 rfl rfl rfl hl.1 rfl (lv_room (Nat.le_of_ble_eq_true rfl)) dX7_readAll_13 ⟨Nat.le_of_ble_eq_true rfl, Nat.le_of_ble_eq_true rfl⟩) hP hD hS hA rfl rfl rfl (fun H locs hP hD hS => ?_)
        refine lv_if_eq (tgt := 29) hx hb dX7_readAll_16 (by decide) (fun c_4 => ?_) (fun c_4 => ?_)
        · replace hE := it_t hE c_4
          have hE := Option.some.inj hE
          exact ev hx hb hr hlocks hK hP hD hS (by rw [hE]) dX7_readAll_29
        · replace hE := it_f hE c_4
          refine lv_aload_n hx hb dX7_readAll_19 rfl (lv_at hl 0 rfl) ?_
          obtain ⟨mT_5, hc_6, hE⟩ := bd1_el hE
          refine kv (X := []) (Y := []) (ws1 := (W_T cy aT mT_5)) (rV (X := []) (Y := []) (As := []) (rest := []) hC (c_X7_readCommand l D cy aT mT mT_5 hc_6) (cwV 0 hts gX7_readAll_X7_readCommand rfl rfl rfl cd_X7_readCommand ⟨Nat.le_of_ble_eq_true rfl, Nat.le_of_ble_eq_true rfl⟩) hK hN hP hD hS hA rfl 0 7 rfl rfl rfl hl.1 rfl (lv_room (Nat.le_of_ble_eq_true rfl)) dX7_readAll_20 ⟨Nat.le_of_ble_eq_true rfl, Nat.le_of_ble_eq_true rfl⟩) hP hD hS hA rfl rfl rfl (fun H locs hP hD hS => ?_)
          obtain ⟨x1_7, e_x1_7, hE⟩ := lt_el hE
          refine lv_iinc (v := x1_7) (lv' := [(1, .int x1_7), (0, .ref (aT 0))]) hx hb dX7_readAll_23 hl (k := 1) rfl (by rw [e_x1_7]; rfl) (by decide) rfl (fun ls hl => ?_)
          refine lv_goto (tgt := 6) hx hb dX7_readAll_26 (by decide) ?_
          exact ih x1_7 mT_5 _ _ _ hE hP hD hS (lv_sub hl [1, 0] rfl)
  unfold f_X7_readAll at hE
  refine lv_aload_n hx hb dX7_readAll_0 rfl (lv_at hl 0 rfl) ?_
  obtain ⟨mT_8, hc_9, hE⟩ := bd1_el hE
  refine kv (X := []) (Y := []) (ws1 := (W_T cy aT mT_8)) (rV (X := []) (Y := []) (As := []) (rest := []) hC (c_X7_start l D cy aT imT mT_8 hc_9) (cwV 0 hts gX7_readAll_X7_start rfl rfl rfl cd_X7_start ⟨Nat.le_of_ble_eq_true rfl, Nat.le_of_ble_eq_true rfl⟩) hK hN hP hD hS hA rfl 0 7 rfl rfl rfl hl.1 rfl (lv_room (Nat.le_of_ble_eq_true rfl)) dX7_readAll_1 ⟨Nat.le_of_ble_eq_true rfl, Nat.le_of_ble_eq_true rfl⟩) hP hD hS hA rfl rfl rfl (fun H locs hP hD hS => ?_)
  refine lv_iconst (v := 0) hx hb dX7_readAll_4 (by decide) ?_
  refine lv_istore_n (lv' := [(1, .int (0 : Int32)), (0, .ref (aT 0))]) hx hb dX7_readAll_5 rfl hl (by decide) rfl (fun ls hl => ?_)
  exact h6 fuel (0 : Int32) mT_8 _ _ _ hE hP hD hS (lv_sub hl [1, 0] rfl)
