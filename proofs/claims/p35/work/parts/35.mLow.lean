def f_L_low (x0 x1 : Int32) : Option Int32 := if x1 = 0 then none else some ((x0 &&& 2147483647) - (x0 &&& 2147483647) / x1 * x1)
abbrev rm_L_low : Room := { frames := 0, cells := 0, slots := 0, locals := 0 }
theorem c_L_low (l : Launch) (D : va_G) (cy : Nat → Nat) (x0 x1 r' : Int32) (hE : f_L_low x0 x1 = some r') : CI l yL_low wsL_low rm_L_low D cy [.int x0, .int x1] ([] : va_W) 0 0 r' ([] : va_W) := by
  refine CQ_of (cc := cL_low) (maxL := 2) (ret := (some .int)) (by decide) rfl (Nat.le_of_ble_eq_true rfl) (fun p e s m args below meth c A ls hx hb hr hml hlocks hnm hown hts hA hK hN hP hD hS hl => ?_)
  have hown : s.vm.findClass RL = some m.cls := hown
  have hl : lv_has ls 2 [(0, .int x0), (1, .int x1)] := hl
  have k8 : (Cond.constant RL 8 (2147483647)).before args s = true := hts _ (mC qk_L_8)
  unfold f_L_low at hE
  by_cases h0 : x1 = 0
  · rw [if_pos h0] at hE; exact absurd hE (fun h9 => nomatch h9)
  rw [if_neg h0] at hE
  have hE := Option.some.inj hE
  refine lv_iload_n hx hb dL_low_0 rfl (lv_at hl 0 rfl) ?_
  refine lv_ldc hx hb hown k8 dL_low_1 ?_
  refine lv_iand hx hb dL_low_3 ?_
  refine lv_iload_n hx hb dL_low_4 rfl (lv_at hl 1 rfl) ?_
  refine lv_irem hx hb dL_low_5 h0 ?_
  exact ei hx hb hr hlocks hK hP hD hS hE rfl dL_low_6
