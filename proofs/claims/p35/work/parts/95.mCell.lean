/-- the law reads its script -/
def cPreX (D : va_G) (cy : Nat → Nat) (b L : Nat) (xs : Nat → Int32) (sz : Nat) (U : State) : Prop := cPre D cy [] sz U ∧ va_X b L xs U U.heap ∧ b < U.heap.size
theorem cPreX_blind (D : va_G) (cy : Nat → Nat) (b L : Nat) (xs : Nat → Int32) (av : List Value) (sz : Nat) : FrameBlind (va_Pc av (cPreX D cy b L xs sz)) := fun a U g mk q => by
  obtain ⟨q0, q1, q2, q3⟩ := q
  obtain ⟨p0, p1⟩ := cPre_blind D cy av [] sz a U g mk ⟨q0, q1⟩
  exact ⟨p0, p1, va_X.moved (u := U) (U := U.calling g mk a) (Vm.Alike.refl U.vm) q2, q3⟩
abbrev rm_L_cell : Room := { frames := 0, cells := 0, slots := 0, locals := 0 }
theorem cell_body {p : Program} {l : Launch} {e : Env} {s : State} {m : MethodId} {args : Array Value} {below : List Frame} {meth : Method} {c : Code} {A : Nat → Prop} {ls : Array Slot} {D : va_G} {cy : Nat → Nat} {b L : Nat} {xs : Nat → Int32} (hL : L ≤ 260) {j : Nat} (hj : j < 1000) {r : Int32} (hr9 : r = if j < L then xs (nI j).toNatClampNeg else 981307845 * (nI j + 1))
    (hx : p.tables.exec = Jvm.exec) (hb : c.code = cL_cell) (hr : meth.sig.returnType = some .int) (hlocks : meth.locks = false) (hown : s.vm.findClass RL = some m.cls) (hts : ∀ w ∈ wsL_cell, w.before args s = true) (hK : va_K D vwCl (tyl cy) s) (hP : va_P D vwCl [] s.heap) (hD : va_D A []) (hS : va_S A s.heap s.heap []) (hXs : va_X b L xs s s.heap) (hbl : b < s.heap.size) (hbA : ¬ A b) (hl : lv_has ls 2 [(0, .ref b), (1, .int (nI j))]) :
    W p l e rm_L_cell s m args below meth c s.heap [] 0 0 (MQ below (QI D cy r [] A) args s 0 0 A) (F0 m 0 ls []) := by
  have k7 : (Cond.constant RL 7 (981307845)).before args s = true := hts _ (mC qk_L_7)
  refine lv_iload_n hx hb dL_cell_0 rfl (lv_at hl 1 rfl) ?_
  refine lv_aload_n hx hb dL_cell_1 rfl (lv_at hl 0 rfl) ?_
  refine va_slen hx hb hXs hbl hbA hS dL_cell_2 ?_
  by_cases h9 : j < L
  · rw [if_pos h9] at hr9
    refine lv_icmp_ge (tgt := 12) hx hb dL_cell_3 (by decide) (fun q => absurd q (nI_ge (b := L) h9 (by omega))) (fun _ => ?_)
    refine lv_aload_n hx hb dL_cell_6 rfl (lv_at hl 0 rfl) ?_
    refine lv_iload_n hx hb dL_cell_7 rfl (lv_at hl 1 rfl) ?_
    refine va_sld hx hb hXs hbl hbA hS (vp_in_nI h9 (by omega)) dL_cell_8 ?_
    refine lv_goto (tgt := 18) hx hb dL_cell_9 (by decide) ?_
    exact ei hx hb hr hlocks hK hP hD hS hr9.symm rfl dL_cell_18
  · rw [if_neg h9] at hr9
    refine lv_icmp_ge (tgt := 12) hx hb dL_cell_3 (by decide) (fun _ => ?_) (fun q => absurd (nI_le (a := L) (b := j) (by omega) (by omega)) q)
    refine lv_ldc hx hb hown k7 dL_cell_12 ?_
    refine lv_iload_n hx hb dL_cell_14 rfl (lv_at hl 1 rfl) ?_
    refine lv_iconst (v := 1) hx hb dL_cell_15 (by decide) ?_
    refine lv_iadd hx hb dL_cell_16 ?_
    refine lv_imul hx hb dL_cell_17 ?_
    exact ei hx hb hr hlocks hK hP hD hS hr9.symm rfl dL_cell_18
theorem c_L_cell (l : Launch) (D : va_G) (cy : Nat → Nat) {b L : Nat} {xs : Nat → Int32} (hL : L ≤ 260) {j : Nat} (hj : j < 1000) {r : Int32} (hr9 : r = if j < L then xs (nI j).toNatClampNeg else 981307845 * (nI j + 1)) (sz : Nat) : Met l yL_cell wsL_cell rm_L_cell (va_Pc [.ref b, .int (nI j)] (cPreX D cy b L xs sz)) (QI D cy r [] (va_A [] sz)) 0 0 (va_A [] sz) := by
  refine Met.ofW (cc := cL_cell) (maxL := 2) (ret := some .int) (by decide) rfl ?_
  intro p e s m args below meth c s₁ B hml hv
  obtain ⟨rfl, ⟨hsz, hP, hK, hD0, hN⟩, hXs, hbl⟩ := hv
  subst hsz
  have hts := atoms_spec (ws := wsL_cell) B.pre
  have hl := lv_entry [.ref b, .int (nI j)] (n := 2) (Nat.le_of_ble_eq_true rfl)
  rw [lg_entry_eq]
  refine cell_body hL hj hr9 B.exec B.bytes B.returns B.notSynchronized (findClass_of_methodNamed B.named) hts hK hP hD0.self va_S.rf hXs hbl (fun h => ?_) hl
  rcases h with ⟨k, e9, h⟩ | h
  · exact absurd h (by simp)
  · omega
/-- the call of cell -/
theorem rC {p : Program} {l : Launch} {e : Env} {R : Room} {s : State} {m : MethodId} {args : Array Value} {below : List Frame} {meth : Method} {c : Code} {H : Heap} {locs : List Loc} {cells slots : Nat} {bytes cc : ByteArray} {maxL nL index : Nat} {ret : Option FieldType} {wd : List Cond} {rm : Room} {Ts : List Cond} {own : String} {y : MethodName} {rest st0 : List Value} {pc : Nat} {ls : Array Slot} {D : va_G} {cy : Nat → Nat} {A : Nat → Prop} {ws : va_W} {b L : Nat} {xs : Nat → Int32} {x r : Int32} (S : CallFix p m c cc nL s args Ts own) (hM : ∀ sz : Nat, Met l y wd rm (va_Pc [.ref b, .int x] (cPreX D cy b L xs sz)) (QI D cy r [] (va_A [] sz)) 0 0 (va_A [] sz)) (cw : CallB R s args own index y bytes maxL ret wd rm 0 0 2 ∧ (Cond.static y).before args s = true) (hK : va_K D vwCl (tyl cy) s) (hN : cG cy A s s.heap) (hXs : va_X b L xs s s.heap) (hbl : b < s.heap.size) (hbA : ¬ A b) (hP : va_P D vwCl ws H) (hD : va_D A ws) (hS : va_S A s.heap H locs) (hA : ∀ q, s.heap.size ≤ q → A q)
    (hsize : ls.size = nL) (hstack : st0 = [.int x, .ref b] ++ rest) (hW : 2 * (F0 m pc ls st0).monitorRoom + (rest.map fun v => v.category).sum ≤ 8) (hdg : decode cc pc = .ok (.invokestatic index, 3)) (hf : cells ≤ R.cells ∧ slots ≤ R.slots) :
    va_Run p l e R s m args below meth c H locs cells slots 0 0 (F0 m pc ls st0) rest (QI D cy r [] (va_A [] H.size) [.ref b, .int x].toArray) (va_A [] H.size) := by
  have hPc : va_P D vwCl [] H := fun k q h => by simp at h
  have hDc : va_D A [] := ⟨fun i j p q h => by simp at h, fun k q h => by simp at h⟩
  have hD2 : va_D A ([] ++ ([] ++ ws)) := hD
  exact va_runS S (hM H.size) cw ⟨cPreX_blind D cy b L xs _ H.size, fun U hU hW => ⟨rfl, ⟨by rw [hU], by rw [hU]; exact hPc, va_K.moved hW.alike hK, hDc.weaken (fun _ _ _ _ => trivial), by rw [hU]; exact hN.call hS (aW_free (X := []) (wc := []) (Y := ws) hD2 hS hA) hW⟩, by rw [hU]; exact (hXs.kept (hS.2.1 b hbl hbA)).moved hW.alike, by rw [hU]; exact Nat.lt_of_lt_of_le hbl hS.1⟩⟩ rfl rfl hsize hstack hW hdg hf
