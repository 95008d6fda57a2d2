set_option maxHeartbeats 40000000 in
set_option maxRecDepth 100000 in
theorem LQ_start : LQ mP0 zN9 zM9 zM9 zM9 zM9 zM9 zN9 zM9 (fun _ => st0) := by
  refine LQ_0 (fun _ _ => rfl) (fun _ _ => rfl) (fun j hj => ?_) (fun j hj => ?_) (fun k k0 k1 => ?_)
  · show va_cpy (stV 0) (fun _ => 0) 0 0 8 j = _
    unfold va_cpy
    rw [if_pos ⟨Nat.zero_le j, by omega⟩, Nat.sub_zero, Nat.zero_add]
    rfl
  · show t4 24 j = 10
    unfold t4
    rw [if_pos hj]
  · obtain rfl | rfl | rfl | rfl : k = 7 ∨ k = 8 ∨ k = 9 ∨ k = 10 := by omega
    · rfl
    · rfl
    · rfl
    · rfl
set_option maxHeartbeats 400000000 in
set_option maxRecDepth 100000 in
theorem whole_start {p : Program} {e : Env} {s : State} {m : MethodId} {below : List Frame} {meth : Method} {c : Code} (l : Launch) (hflags : l.flags = flags0) {b L : Nat} {xs : Nat → Int32} (hL : L ≤ 260) (C0 : lw_At p s m meth c b L xs) : W p l e room_1 s m #[Value.ref b] below meth c s.heap [] 0 0 (lw_Z below #[Value.ref b] s) (entryFrame m ([Value.ref b] : List Value).toArray 7) := by
  obtain ⟨hx, hb, hr, hml, hown, hts0, hXs, hbl, hlocks, hgv⟩ := id C0
  have hst : l.stackTraces = false := by
    unfold Launch.stackTraces
    rw [hflags]
    decide
  have hown : s.vm.findClass RL = some m.cls := hown
  have hts : ∀ w ∈ lwA, w.before #[Value.ref b] s = true := fun w h => hts0 w (lwA_tbl h)
  obtain ⟨D, cy, hK, hN, hX⟩ := start_all hts0 hgv
  have hA : ∀ q : Nat, s.heap.size ≤ q → LA s q := fun _ h => h
  have hS : va_S (LA s) s.heap s.heap [] := va_S.rf
  have hP : va_P D vwCl [] s.heap := fun k q h => by simp at h
  have hD : va_D (LA s) [] := ⟨fun i j p q h => by simp at h, fun k q h => by simp at h⟩
  have hl := lv_entry ([.ref b]) (n := 7) (Nat.le_of_ble_eq_true rfl)
  rw [lg_entry_eq]
  generalize (lg_sl ([.ref b]) ++ List.replicate (7 - (lg_sl ([.ref b])).length) Slot.unset).toArray = ls at hl ⊢
  have hl : lv_has ls 7 [(0, .ref b)] := hl
  have hC : CallFix p m c code 7 s #[Value.ref b] lwA RL := ⟨hx, hb, hml, hown, hts⟩
  refine va_new (D := D) (ci := 8) (fs := [.null, .null, .null, .null]) (C := RX8) (T := TX8) (N := 4) hx hb hts iA_X8 tyX8 tyX8_ok hown (hts _ qg_L_10) (hts _ qx_X8) (hts _ qn_X8) hK hP hD hS hA rfl (fun j hj => by rcases (show j = 0 ∨ j = 1 ∨ j = 2 ∨ j = 3 by omega) with rfl | rfl | rfl | rfl <;> rfl) (Nat.le_of_ble_eq_true rfl) (Nat.le_of_ble_eq_true rfl) dL_law_0 (fun q0 H hP hD hS => ?_)
  refine lv_dup hx hb dL_law_3 rfl ?_
  refine kI (X := []) (post := fun _ : (Nat → Nat → Nat) × (Nat → Nat → Nat) × (Nat → Nat) × (Nat → Nat → Nat → Nat) × (Nat → Nat) => True) (Wn := fun u => W_0 cy q0 u) (rI (X := []) (As := []) (rest := [.ref q0]) hC (c_X8_init l D cy q0) (cwI 0 hts gL_law_X8_init rfl rfl rfl (hts _ qn_X8) (hts _ qm_L_175) (hts _ qi_X8_init) rfl cd_X8_init.2 ⟨Nat.le_of_ble_eq_true rfl, Nat.le_of_ble_eq_true rfl⟩) hK hN hP hD hS hA rfl rfl hl.1 rfl (lv_room (Nat.le_of_ble_eq_true rfl)) dL_law_4 ⟨Nat.le_of_ble_eq_true rfl, Nat.le_of_ble_eq_true rfl⟩) hP hD hS hA rfl (fun u H locs _ hP9 hD9 hS9 => ?_)
  clear hP hD hS
  have hP := hP9
  have hD := hD9
  have hS := hS9
  refine lv_astore_n (lv' := [(1, .ref q0), (0, .ref b)]) hx hb dL_law_7 rfl hl (by decide) rfl (fun ls hl => ?_)
  refine va_new (D := D) (ci := 8) (fs := [.null, .null, .null, .null]) (C := RX8) (T := TX8) (N := 4) hx hb hts iA_X8 tyX8 tyX8_ok hown (hts _ qg_L_10) (hts _ qx_X8) (hts _ qn_X8) hK hP hD hS hA rfl (fun j hj => by rcases (show j = 0 ∨ j = 1 ∨ j = 2 ∨ j = 3 by omega) with rfl | rfl | rfl | rfl <;> rfl) (Nat.le_of_ble_eq_true rfl) (Nat.le_of_ble_eq_true rfl) dL_law_8 (fun q8 H hP hD hS => ?_)
  refine lv_dup hx hb dL_law_11 rfl ?_
  refine kI (X := (W_0 cy q0 u)) (post := fun _ : (Nat → Nat → Nat) × (Nat → Nat → Nat) × (Nat → Nat) × (Nat → Nat → Nat → Nat) × (Nat → Nat) => True) (Wn := fun u => W_0 cy q8 u) (rI (X := (W_0 cy q0 u)) (As := []) (rest := [.ref q8]) hC (c_X8_init l D cy q8) (cwI 0 hts gL_law_X8_init rfl rfl rfl (hts _ qn_X8) (hts _ qm_L_175) (hts _ qi_X8_init) rfl cd_X8_init.2 ⟨Nat.le_of_ble_eq_true rfl, Nat.le_of_ble_eq_true rfl⟩) hK hN hP hD hS hA rfl rfl hl.1 rfl (lv_room (Nat.le_of_ble_eq_true rfl)) dL_law_12 ⟨Nat.le_of_ble_eq_true rfl, Nat.le_of_ble_eq_true rfl⟩) hP hD hS hA rfl (fun u2 H locs _ hP9 hD9 hS9 => ?_)
  clear hP hD hS
  have hP := hP9
  have hD := hD9
  have hS := hS9
  refine lv_astore_n (lv' := [(2, .ref q8), (1, .ref q0), (0, .ref b)]) hx hb dL_law_15 rfl hl (by decide) rfl (fun ls hl => ?_)
  refine lv_iconst (v := 0) hx hb dL_law_16 (by decide) ?_
  refine lv_istore_n (lv' := [(3, .int (nI 0)), (2, .ref q8), (1, .ref q0), (0, .ref b)]) hx hb dL_law_17 rfl hl (by decide) rfl (fun ls hl => ?_)
  refine W.widen (k := 1000 + 64 * 0) (n := 100000 + 400 * 0) (Nat.le_of_ble_eq_true rfl) (Nat.le_of_ble_eq_true rfl) ?_
  exact law_go hst hL C0 hK hN hX 32 0 zM9 mP0 zN9 zM9 zM9 zM9 zM9 zM9 zN9 mP0 zN9 zM9 zM9 zM9 zM9 zM9 zN9 zM9 (fun _ => st0) H _ ls rfl LQ_start rfl hP hD hS (lv_sub hl [0, 3, 2, 1] rfl)
