theorem arrV_cg {cI : ClassId} {n : Nat} {F G : Nat → Value} (h : ∀ j, j < n → F j = G j) : arrV cI n F = arrV cI n G := by
  unfold arrV
  congr 1
  exact congrArg _ (funext fun j => h j.val j.isLt)
theorem va_P_eq {D : va_G} {cl : List vw_C} {ws ws' : va_W} {H : Heap} (h : va_P D cl ws H) (e : ∀ (k : Nat) (q : Nat × va_E), ws'[k]? = some q → ∃ q0, ws[k]? = some q0 ∧ (va_at D cl q0 H → va_at D cl q H)) : va_P D cl ws' H := fun k q hk => by
  obtain ⟨q0, h1, h2⟩ := e k q hk
  exact h2 (h k q0 h1)
/-- two holes in a world, brought together and apart again -/
theorem va_P_mem {D : va_G} {cl : List vw_C} {ws : va_W} {H : Heap} : va_P D cl ws H ↔ ∀ q ∈ ws, va_at D cl q H := by
  constructor
  · intro h q hq
    obtain ⟨k, hk⟩ := List.getElem?_of_mem hq
    exact h k q hk
  · intro h k q hk
    exact h q (List.mem_of_getElem? hk)
theorem va_P_perm {D : va_G} {cl : List vw_C} {ws ws' : va_W} {H : Heap} (p : ws.Perm ws') (h : va_P D cl ws H) : va_P D cl ws' H := va_P_mem.mpr fun q hq => va_P_mem.mp h q (p.mem_iff.mpr hq)
theorem va_D_iff {A : Nat → Prop} {ws : va_W} : va_D A ws ↔ (ws.Pairwise fun p q => p.1 ≠ q.1) ∧ ∀ q ∈ ws, A q.1 := by
  constructor
  · intro h
    refine ⟨List.pairwise_iff_getElem.mpr fun i j hi hj hij e => ?_, fun q hq => ?_⟩
    · have := h.1 i j _ _ (List.getElem?_eq_getElem hi) (List.getElem?_eq_getElem hj) e
      omega
    · obtain ⟨k, hk⟩ := List.getElem?_of_mem hq
      exact h.2 k q hk
  · intro h
    refine ⟨fun i j p q hi hj hpq => ?_, fun k q hk => h.2 q (List.mem_of_getElem? hk)⟩
    obtain ⟨hi', ei⟩ := List.getElem?_eq_some_iff.mp hi
    obtain ⟨hj', ej⟩ := List.getElem?_eq_some_iff.mp hj
    have hn := List.pairwise_iff_getElem.mp h.1
    rcases Nat.lt_trichotomy i j with h1 | h1 | h1
    · exact absurd (by rw [ei, ej]; exact hpq) (hn i j hi' hj' h1)
    · exact h1
    · exact absurd (by rw [ei, ej]; exact hpq.symm) (hn j i hj' hi' h1)
theorem va_D_perm {A : Nat → Prop} {ws ws' : va_W} (p : ws.Perm ws') (h : va_D A ws) : va_D A ws' := by
  rw [va_D_iff] at h ⊢
  exact ⟨(p.pairwise_iff (fun h9 e => h9 e.symm)).mp h.1, fun q hq => h.2 q (p.mem_iff.mpr hq)⟩
theorem hole2 (X wa Y wb Z : va_W) : (X ++ (wa ++ (Y ++ (wb ++ Z)))).Perm ([] ++ ((wa ++ wb) ++ (X ++ (Y ++ Z)))) := by
  rw [List.nil_append]
  have h1 : (X ++ (wa ++ (Y ++ (wb ++ Z)))).Perm (wa ++ (X ++ (Y ++ (wb ++ Z)))) := List.perm_append_comm_assoc X wa _
  have h2 : (X ++ (Y ++ (wb ++ Z))).Perm (wb ++ (X ++ (Y ++ Z))) := by
    have h3 : (Y ++ (wb ++ Z)).Perm (wb ++ (Y ++ Z)) := List.perm_append_comm_assoc Y wb Z
    exact (h3.append_left X).trans (List.perm_append_comm_assoc X wb _)
  refine h1.trans ((h2.append_left wa).trans ?_)
  rw [List.append_assoc]
abbrev rm_copy : Room := { frames := 1, cells := 0, slots := 0, locals := 18 }
set_option maxHeartbeats 4000000 in
set_option maxRecDepth 100000 in
theorem c_X8_copyRow (l : Launch) (D : va_G) (cy : Nat → Nat) (b0 b1 z : Nat) (hz : z < 2 ^ 31) (g0 g1 : Nat → Int32) : CV l yX8_copyRow wsX8_copyRow rm_copy D cy [.ref b0, .ref b1] [(b1, .inl (cy 0, z, .inl g1)), (b0, .inl (cy 0, z, .inl g0))] 0 0 [(b1, .inl (cy 0, z, .inl g0)), (b0, .inl (cy 0, z, .inl g0))] := by
  refine CQ_of (cc := cX8_copyRow) (maxL := 2) (ret := none) (by decide) rfl (Nat.le_of_ble_eq_true rfl) (fun p e s m args below meth c A ls hx hb hr hml hlocks hnm hown hts hA hK hN hP hD hS hl => ?_)
  have hown : s.vm.findClass RX8 = some m.cls := hown
  have hl : lv_has ls 2 [(0, .ref b0), (1, .ref b1)] := hl
  have hm2 : c.maxLocals = ls.size := hml.trans hl.1.symm
  refine lv_aload_n hx hb dX8_copyRow_0 rfl (lv_at hl 0 rfl) ?_
  refine lv_iconst (v := 0) hx hb dX8_copyRow_1 (by decide) ?_
  refine lv_aload_n hx hb dX8_copyRow_2 rfl (lv_at hl 1 rfl) ?_
  refine lv_iconst (v := 0) hx hb dX8_copyRow_3 (by decide) ?_
  refine lv_aload_n hx hb dX8_copyRow_4 rfl (lv_at hl 0 rfl) ?_
  refine va_alen hx hb hK hP 1 0 rfl rfl (v := Int32.ofNat z) rfl dX8_copyRow_5 ?_
  refine lv_aload_n hx hb dX8_copyRow_6 rfl (lv_at hl 1 rfl) ?_
  refine va_alen hx hb hK hP 0 0 rfl rfl (v := Int32.ofNat z) rfl dX8_copyRow_7 ?_
  refine va_mmin hx hb hm2 hown (hts _ (mC qm_X8_293)) (hts _ (mC qs_Lib_Math_min_name)) (hts _ (mC qn_J9)) (hts _ (mC qc_Lib_Math_min_name)) (Nat.le_of_ble_eq_true rfl) (Nat.le_of_ble_eq_true rfl) (Nat.le_of_ble_eq_true rfl) (Nat.le_of_ble_eq_true rfl) dX8_copyRow_8 ?_
  refine s_nm (y := nI z) (by split <;> rfl) ?_
  have hc1 : (0 : Int32).toNatClampNeg + (nI z).toNatClampNeg ≤ z := by rw [nI_clamp hz]; exact Nat.le_of_eq (Nat.zero_add z)
  refine va_copyi hx hb hm2 hown (hts _ (mC qm_X8_298)) (hts _ (mC qv_arraycopyName)) (hts _ (mC qs_arraycopyName)) (hts _ (mC qn_J10)) hK hP hD hS 1 0 0 0 (n0 := z) (n1 := z) (f := g0) (g := g1) (ty := .int) rfl rfl rfl rfl rfl (by decide) (by decide) (nI_pos hz) hc1 hc1 (fun i _ => rfl) (Nat.le_of_ble_eq_true rfl) (Nat.le_of_ble_eq_true rfl) dX8_copyRow_11 (fun H locs hP hD hS => ?_)
  have hP1 : va_P D vwCl [(b1, .inl (cy 0, z, .inl g0)), (b0, .inl (cy 0, z, .inl g0))] H := va_P_eq hP (fun k q hk => by
    match k, hk with
    | 1, hk => exact ⟨_, rfl, fun h9 => by cases hk; exact h9⟩
    | 0, hk =>
      refine ⟨_, rfl, fun h9 => ?_⟩
      cases hk
      refine Eq.trans (show H[b1]? = _ from h9) (congrArg some ?_)
      show arrV (cy 0) z (fun j => Value.int (va_cpy g0 g1 (Int32.toNatClampNeg 0) (Int32.toNatClampNeg 0) (nI z).toNatClampNeg j)) = arrV (cy 0) z (fun j => Value.int (g0 j))
      refine arrV_cg fun j hj => ?_
      show Value.int _ = Value.int _
      rw [pk_cpy_in (by exact Nat.zero_le j) (by rw [nI_clamp hz]; show j < 0 + z; omega)]
      show Value.int (g0 (0 + (j - 0))) = Value.int (g0 j)
      rw [show 0 + (j - 0) = j by omega]
    | k + 2, hk => cases hk)
  have hD1 : va_D A [(b1, .inl (cy 0, z, .inl g0)), (b0, .inl (cy 0, z, .inl g0))] := va_D_fst hD rfl
  exact ev hx hb hr hlocks hK hP1 hD1 hS rfl dX8_copyRow_14
set_option maxHeartbeats 4000000 in
set_option maxRecDepth 100000 in
theorem c_X8_copyLongRow (l : Launch) (D : va_G) (cy : Nat → Nat) (b0 b1 z : Nat) (hz : z < 2 ^ 31) (g0 g1 : Nat → Int64) : CV l yX8_copyLongRow wsX8_copyLongRow rm_copy D cy [.ref b0, .ref b1] [(b1, .inl (cy 1, z, .inr (.inl g1))), (b0, .inl (cy 1, z, .inr (.inl g0)))] 0 0 [(b1, .inl (cy 1, z, .inr (.inl g0))), (b0, .inl (cy 1, z, .inr (.inl g0)))] := by
  refine CQ_of (cc := cX8_copyLongRow) (maxL := 2) (ret := none) (by decide) rfl (Nat.le_of_ble_eq_true rfl) (fun p e s m args below meth c A ls hx hb hr hml hlocks hnm hown hts hA hK hN hP hD hS hl => ?_)
  have hown : s.vm.findClass RX8 = some m.cls := hown
  have hl : lv_has ls 2 [(0, .ref b0), (1, .ref b1)] := hl
  have hm2 : c.maxLocals = ls.size := hml.trans hl.1.symm
  refine lv_aload_n hx hb dX8_copyLongRow_0 rfl (lv_at hl 0 rfl) ?_
  refine lv_iconst (v := 0) hx hb dX8_copyLongRow_1 (by decide) ?_
  refine lv_aload_n hx hb dX8_copyLongRow_2 rfl (lv_at hl 1 rfl) ?_
  refine lv_iconst (v := 0) hx hb dX8_copyLongRow_3 (by decide) ?_
  refine lv_aload_n hx hb dX8_copyLongRow_4 rfl (lv_at hl 0 rfl) ?_
  refine va_alen hx hb hK hP 1 1 rfl rfl (v := Int32.ofNat z) rfl dX8_copyLongRow_5 ?_
  refine lv_aload_n hx hb dX8_copyLongRow_6 rfl (lv_at hl 1 rfl) ?_
  refine va_alen hx hb hK hP 0 1 rfl rfl (v := Int32.ofNat z) rfl dX8_copyLongRow_7 ?_
  refine va_mmin hx hb hm2 hown (hts _ (mC qm_X8_293)) (hts _ (mC qs_Lib_Math_min_name)) (hts _ (mC qn_J9)) (hts _ (mC qc_Lib_Math_min_name)) (Nat.le_of_ble_eq_true rfl) (Nat.le_of_ble_eq_true rfl) (Nat.le_of_ble_eq_true rfl) (Nat.le_of_ble_eq_true rfl) dX8_copyLongRow_8 ?_
  refine s_nm (y := nI z) (by split <;> rfl) ?_
  have hc1 : (0 : Int32).toNatClampNeg + (nI z).toNatClampNeg ≤ z := by rw [nI_clamp hz]; exact Nat.le_of_eq (Nat.zero_add z)
  refine va_copyl hx hb hm2 hown (hts _ (mC qm_X8_298)) (hts _ (mC qv_arraycopyName)) (hts _ (mC qs_arraycopyName)) (hts _ (mC qn_J10)) hK hP hD hS 1 0 1 1 (n0 := z) (n1 := z) (f := g0) (g := g1) (ty := .long) rfl rfl rfl rfl rfl (by decide) (by decide) (nI_pos hz) hc1 hc1 (fun i _ => rfl) (Nat.le_of_ble_eq_true rfl) (Nat.le_of_ble_eq_true rfl) dX8_copyLongRow_11 (fun H locs hP hD hS => ?_)
  have hP1 : va_P D vwCl [(b1, .inl (cy 1, z, .inr (.inl g0))), (b0, .inl (cy 1, z, .inr (.inl g0)))] H := va_P_eq hP (fun k q hk => by
    match k, hk with
    | 1, hk => exact ⟨_, rfl, fun h9 => by cases hk; exact h9⟩
    | 0, hk =>
      refine ⟨_, rfl, fun h9 => ?_⟩
      cases hk
      refine Eq.trans (show H[b1]? = _ from h9) (congrArg some ?_)
      show arrV (cy 1) z (fun j => Value.long (va_cpy g0 g1 (Int32.toNatClampNeg 0) (Int32.toNatClampNeg 0) (nI z).toNatClampNeg j)) = arrV (cy 1) z (fun j => Value.long (g0 j))
      refine arrV_cg fun j hj => ?_
      show Value.long _ = Value.long _
      rw [pk_cpy_in (by exact Nat.zero_le j) (by rw [nI_clamp hz]; show j < 0 + z; omega)]
      show Value.long (g0 (0 + (j - 0))) = Value.long (g0 j)
      rw [show 0 + (j - 0) = j by omega]
    | k + 2, hk => cases hk)
  have hD1 : va_D A [(b1, .inl (cy 1, z, .inr (.inl g0))), (b0, .inl (cy 1, z, .inr (.inl g0)))] := va_D_fst hD rfl
  exact ev hx hb hr hlocks hK hP1 hD1 hS rfl dX8_copyLongRow_14
