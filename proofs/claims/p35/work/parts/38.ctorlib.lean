/-! the constructors: new cells come behind the world -/
abbrev zM9 : Mem := fun _ _ => 0
abbrev zN9 : MemL := fun _ _ => 0
/-- at a constructor's end: the world out of what it made -/
abbrev QN {U : Type} (D : va_G) (cy : Nat → Nat) (post : U → Prop) (Wn : U → va_W) (A : Nat → Prop) := va_Qv post (fun u t => cEnd D cy (Wn u) A t) A
theorem fr2 {D : va_G} {cl : List vw_C} {A : Nat → Prop} {X wc w1 : va_W} {H H1 : Heap} (hP : va_P D cl (X ++ wc) H) (hD : va_D A (X ++ wc)) (hF : ∀ q, va_A wc H.size q → A q) (hk : ∀ q : Nat, q < H.size → ¬ va_A wc H.size q → H1[q]? = H[q]?) (hP1 : va_P D cl w1 H1) (hD1 : va_D (va_A wc H.size) w1) : va_P D cl (X ++ w1) H1 ∧ va_D A (X ++ w1) := by
  have hpw := List.pairwise_append.mp (va_D_iff.mp hD).1
  have hn : ∀ q ∈ X, q.1 < H.size ∧ ¬ va_A wc H.size q.1 := by
    intro q hq
    obtain ⟨k, hk9⟩ := List.getElem?_of_mem hq
    have hlt := (va_P_l hP k q hk9).lt
    refine ⟨hlt, fun h => ?_⟩
    rcases h with ⟨j, e, h⟩ | h
    · exact hpw.2.2 q hq (q.1, e) (List.mem_of_getElem? h) rfl
    · exact absurd hlt (Nat.not_lt.mpr h)
  refine ⟨va_P.app ((va_P_l hP).kept fun k q hq => ?_) hP1, va_D_iff.mpr ⟨List.pairwise_append.mpr ⟨hpw.1, (va_D_iff.mp hD1).1, fun a ha b hb e => (hn a ha).2 (by rw [e]; exact (va_D_iff.mp hD1).2 b hb)⟩, fun q hq => ?_⟩⟩
  · have h9 := hn q (List.mem_of_getElem? hq)
    exact hk q.1 h9.1 h9.2
  · rcases List.mem_append.mp hq with h | h
    · exact (va_D_iff.mp hD).2 q (List.mem_append_left _ h)
    · exact hF q.1 ((va_D_iff.mp hD1).2 q h)
section RUNN
variable {p : Program} {l : Launch} {e : Env} {R : Room} {s : State} {m : MethodId} {args : Array Value} {below : List Frame} {meth : Method} {c : Code} {H H0 : Heap} {locs : List Loc} {cells slots : Nat} {Q : State → Prop}
variable {y : MethodName} {bytes cc : ByteArray} {maxL nL mc ms n index : Nat} {wd : List Cond} {rm : Room} {Ts : List Cond} {own : String} {b : Addr} {As rest st0 : List Value} {pc : Nat} {ls : Array Slot} {D : va_G} {cy : Nat → Nat} {A : Nat → Prop} {ws X wc Y : va_W} {Qc : (Nat → Prop) → Array Value → State → Outcome → State → Prop} {a : Array Value}
/-- a call of a constructor -/
theorem rI (S : CallFix p m c cc nL s args Ts own) (hM : CQ l y wd rm D cy (.ref b :: As) wc mc ms Qc) (cw : CallB R s args own index y bytes maxL none wd rm mc ms n ∧ y.name = "<init>" ∧ (Cond.instanceMethod y).before args s = true) (hK : va_K D vwCl (tyl cy) s) (hN : cG cy A s s.heap) (hP : va_P D vwCl ws H) (hD : va_D A ws) (hS : va_S A s.heap H locs) (hA : ∀ q, s.heap.size ≤ q → A q) (hws : ws = X ++ wc)
    (hn : As.length = n) (hsize : ls.size = nL) (hstack : st0 = As.reverse ++ .ref b :: rest) (hW : 2 * (F0 m pc ls st0).monitorRoom + (rest.map fun v => v.category).sum ≤ 8) (hdg : decode cc pc = .ok (.invokespecial index, 3)) (hf : cells + mc ≤ R.cells ∧ slots + ms ≤ R.slots) :
    va_Run p l e R s m args below meth c H locs cells slots mc ms (F0 m pc ls st0) rest (Qc (va_A wc H.size) (Value.ref b :: As).toArray) (va_A wc H.size) := by
  subst hws
  have hPc : va_P D vwCl wc H := va_P_r hP
  have hDc : va_D A wc := va_D_r hD
  have hF : ∀ q, va_A wc H.size q → A q := aW_free (X := X) (Y := []) (by rw [List.append_nil]; exact hD) hS hA
  exact va_runI S (hM H.size) cw ⟨cPre_blind D cy _ wc H.size, fun U hU hW => ⟨rfl, by rw [hU], by rw [hU]; exact hPc, va_K.moved hW.alike hK, hDc.weaken (fun _ _ _ _ => trivial), by rw [hU]; exact hN.call hS hF hW⟩⟩ rfl hn hsize hstack hW hdg hf
theorem kI {U : Type} {post : U → Prop} {Wn : U → va_W} (hr : va_Run p l e R s m args below meth c H locs cells slots mc ms (F0 m pc ls st0) rest (QN D cy post Wn (va_A wc H.size) a) (va_A wc H.size)) (hP : va_P D vwCl ws H) (hD : va_D A ws) (hS : va_S A s.heap H locs) (hA : ∀ q, s.heap.size ≤ q → A q) (hws : ws = X ++ wc)
    (kk : ∀ (u : U) (H1 : Heap) (locs1 : List Loc), post u → va_P D vwCl (X ++ Wn u) H1 → va_D A (X ++ Wn u) → va_S A s.heap H1 locs1 → W p l e R s m args below meth c H1 locs1 (cells + mc) (slots + ms) Q (F0 m (pc + 3) ls rest)) : W p l e R s m args below meth c H locs cells slots Q (F0 m pc ls st0) := by
  subst hws
  have hF : ∀ q, va_A wc H.size q → A q := aW_free (X := X) (Y := []) (by rw [List.append_nil]; exact hD) hS hA
  refine va_callv hr hS (fun q _ h => hF q h) hF (fun u t H1 locs1 ht hvm hw hB hz1 hk1 hS1 => ?_)
  obtain ⟨hP1, -, hD1⟩ := hB
  rw [ht] at hP1
  obtain ⟨g1, g2⟩ := fr2 hP hD hF hk1 hP1 hD1
  exact kk u H1 locs1 hw g1 g2 hS1
/-- new arrays: their classes are the known ones -/
theorem n_i (hx : p.tables.exec = Jvm.exec) (hb : c.code = cc) (harr : (Cond.arrayClass .int).before args s = true) (hK : va_K D vwCl (tyl cy) s) (hP : va_P D vwCl ws H) (hD : va_D A ws) (hS : va_S A H0 H locs) (hA : ∀ q, H0.size ≤ q → A q)
    {n : Int32} {N' : Nat} (hn : ¬ n < 0) (hN : n.toNatClampNeg = N') (hbytes : N' * componentBytes .int ≤ 536870912) (hcells : cells + 1 ≤ R.cells) (hslots : slots + N' ≤ R.slots) (hdg : decode cc pc = .ok (.newarray .int, 2))
    (kk : ∀ (q : Nat) (H1 : Heap), va_P D vwCl (ws ++ [(q, .inl (cy 0, N', .inl (fun _ => 0)))]) H1 → va_D A (ws ++ [(q, .inl (cy 0, N', .inl (fun _ => 0)))]) → va_S A H0 H1 locs →
      W p l e R s m args below meth c H1 locs (cells + 1) (slots + N') Q (F0 m (pc + 2) ls (.ref q :: rest))) : W p l e R s m args below meth c H locs cells slots Q (F0 m pc ls (.int n :: rest)) := by
  refine va_newa (atype := .int) (ty := .int) (a0 := (N', .inl (fun _ => 0))) hx hb harr rfl hK hP hD hS hA (fun cA => rfl) hn hN hbytes hcells hslots hdg (fun q cA H1 hK1 hP1 hD1 hS1 => ?_)
  have h1 : s.vm.findClass ("[" ++ FieldType.int.toString) = some cA := (hK1.2 4 (cA, .int) rfl).2
  have h2 : s.vm.findClass ("[" ++ FieldType.int.toString) = some (cy 0) := (hK.2 0 (cy 0, .int) rfl).2
  have e9 : cA = cy 0 := Option.some.inj (h1.symm.trans h2)
  rw [e9] at hP1 hD1
  exact kk q H1 hP1 hD1 hS1
theorem n_l (hx : p.tables.exec = Jvm.exec) (hb : c.code = cc) (harr : (Cond.arrayClass .long).before args s = true) (hK : va_K D vwCl (tyl cy) s) (hP : va_P D vwCl ws H) (hD : va_D A ws) (hS : va_S A H0 H locs) (hA : ∀ q, H0.size ≤ q → A q)
    {n : Int32} {N' : Nat} (hn : ¬ n < 0) (hN : n.toNatClampNeg = N') (hbytes : N' * componentBytes .long ≤ 536870912) (hcells : cells + 1 ≤ R.cells) (hslots : slots + N' ≤ R.slots) (hdg : decode cc pc = .ok (.newarray .long, 2))
    (kk : ∀ (q : Nat) (H1 : Heap), va_P D vwCl (ws ++ [(q, .inl (cy 1, N', .inr (.inl (fun _ => 0))))]) H1 → va_D A (ws ++ [(q, .inl (cy 1, N', .inr (.inl (fun _ => 0))))]) → va_S A H0 H1 locs →
      W p l e R s m args below meth c H1 locs (cells + 1) (slots + N') Q (F0 m (pc + 2) ls (.ref q :: rest))) : W p l e R s m args below meth c H locs cells slots Q (F0 m pc ls (.int n :: rest)) := by
  refine va_newa (atype := .long) (ty := .long) (a0 := (N', .inr (.inl (fun _ => 0)))) hx hb harr rfl hK hP hD hS hA (fun cA => rfl) hn hN hbytes hcells hslots hdg (fun q cA H1 hK1 hP1 hD1 hS1 => ?_)
  have h1 : s.vm.findClass ("[" ++ FieldType.long.toString) = some cA := (hK1.2 4 (cA, .long) rfl).2
  have h2 : s.vm.findClass ("[" ++ FieldType.long.toString) = some (cy 1) := (hK.2 1 (cy 1, .long) rfl).2
  have e9 : cA = cy 1 := Option.some.inj (h1.symm.trans h2)
  rw [e9] at hP1 hD1
  exact kk q H1 hP1 hD1 hS1
theorem n_c (hx : p.tables.exec = Jvm.exec) (hb : c.code = cc) (harr : (Cond.arrayClass .char).before args s = true) (hK : va_K D vwCl (tyl cy) s) (hP : va_P D vwCl ws H) (hD : va_D A ws) (hS : va_S A H0 H locs) (hA : ∀ q, H0.size ≤ q → A q)
    {n : Int32} {N' : Nat} (hn : ¬ n < 0) (hN : n.toNatClampNeg = N') (hbytes : N' * componentBytes .char ≤ 536870912) (hcells : cells + 1 ≤ R.cells) (hslots : slots + N' ≤ R.slots) (hdg : decode cc pc = .ok (.newarray .char, 2))
    (kk : ∀ (q : Nat) (H1 : Heap), va_P D vwCl (ws ++ [(q, .inl (cy 2, N', .inl (fun _ => 0)))]) H1 → va_D A (ws ++ [(q, .inl (cy 2, N', .inl (fun _ => 0)))]) → va_S A H0 H1 locs →
      W p l e R s m args below meth c H1 locs (cells + 1) (slots + N') Q (F0 m (pc + 2) ls (.ref q :: rest))) : W p l e R s m args below meth c H locs cells slots Q (F0 m pc ls (.int n :: rest)) := by
  refine va_newa (atype := .char) (ty := .char) (a0 := (N', .inl (fun _ => 0))) hx hb harr rfl hK hP hD hS hA (fun cA => rfl) hn hN hbytes hcells hslots hdg (fun q cA H1 hK1 hP1 hD1 hS1 => ?_)
  have h1 : s.vm.findClass ("[" ++ FieldType.char.toString) = some cA := (hK1.2 4 (cA, .char) rfl).2
  have h2 : s.vm.findClass ("[" ++ FieldType.char.toString) = some (cy 2) := (hK.2 2 (cy 2, .char) rfl).2
  have e9 : cA = cy 2 := Option.some.inj (h1.symm.trans h2)
  rw [e9] at hP1 hD1
  exact kk q H1 hP1 hD1 hS1
theorem n_q (hx : p.tables.exec = Jvm.exec) (hb : c.code = cc) {own : String} {index : Nat} (hown : s.vm.findClass own = some m.cls) (hclink : (Cond.classLink own index "IcePlant$Plant").before args s = true) (hover : va_AO "IcePlant$Plant" s) (hK : va_K D vwCl (tyl cy) s) (hP : va_P D vwCl ws H) (hD : va_D A ws) (hS : va_S A H0 H locs) (hA : ∀ q, H0.size ≤ q → A q)
    {n : Int32} {N' : Nat} (hn : ¬ n < 0) (hN : n.toNatClampNeg = N') (hbytes : N' * 4 ≤ 536870912) (hcells : cells + 1 ≤ R.cells) (hslots : slots + N' ≤ R.slots) (hdg : decode cc pc = .ok (.anewarray index, 3))
    (kk : ∀ (q : Nat) (H1 : Heap), va_P D vwCl (ws ++ [(q, .inl (cy 3, N', .inr (.inr (.inr (.inr (fun _ => none))))))]) H1 → va_D A (ws ++ [(q, .inl (cy 3, N', .inr (.inr (.inr (.inr (fun _ => none))))))]) → va_S A H0 H1 locs →
      W p l e R s m args below meth c H1 locs (cells + 1) (slots + N') Q (F0 m (pc + 3) ls (.ref q :: rest))) : W p l e R s m args below meth c H locs cells slots Q (F0 m pc ls (.int n :: rest)) := by
  refine va_newq hx hb hown hclink hover hK hP hD hS hA hn hN hbytes hcells hslots hdg (fun q cA H1 hK1 hP1 hD1 hS1 => ?_)
  obtain ⟨-, -, -, -, -, h1⟩ := (hK1.2 4 (cA, .object "IcePlant$Plant") rfl).2
  obtain ⟨-, -, -, -, -, h2⟩ := (hK.2 3 (cy 3, .object "IcePlant$Plant") rfl).2
  have e9 : cA = cy 3 := Option.some.inj (h1.symm.trans h2)
  rw [e9] at hP1 hD1
  exact kk q H1 hP1 hD1 hS1
/-- a copy out of a static row -/
theorem copyT (hx : p.tables.exec = Jvm.exec) (hb : c.code = cc) (hml : c.maxLocals = ls.size) {own : String} {index : Nat} (hown : s.vm.findClass own = some m.cls) (hlink : (Cond.methodLink own index arraycopyName).before args s = true) (hnat : (Cond.native arraycopyName).before args s = true) (hstat : (Cond.static arraycopyName).before args s = true) (hini : (Cond.initialized "java/lang/System").before args s = true)
    (hK : va_K D vwCl (tyl cy) s) (hS : va_S A s.heap H locs) {b0 b1 z : Nat} {f g : Nat → Int32} (hz : z < 2 ^ 31) (hT : va_T .int b0 z (fun j => .int (f j)) A s s.heap) (hP : va_P D vwCl [(b1, .inl (cy 0, z, .inl g))] H) (hD : va_D A [(b1, .inl (cy 0, z, .inl g))])
    (hframes : 1 ≤ R.frames) (hlocals : (rest.map fun v => v.category).sum + (nativeFrameWords "java/lang/System" "arraycopy" 5 + 11) ≤ R.locals) (hdg : decode cc pc = .ok (.invokestatic index, 3))
    (kk : ∀ (H1 : Heap) (locs1 : List Loc), va_P D vwCl [(b1, .inl (cy 0, z, .inl (va_cpy f g 0 0 z)))] H1 → va_D A [(b1, .inl (cy 0, z, .inl (va_cpy f g 0 0 z)))] → va_S A s.heap H1 locs1 → W p l e R s m args below meth c H1 locs1 cells slots Q (F0 m (pc + 3) ls rest)) :
    W p l e R s m args below meth c H locs cells slots Q (F0 m pc ls (.int (nI z) :: .int 0 :: .ref b1 :: .int 0 :: .ref b0 :: rest)) := by
  obtain ⟨sc, t1, t2, t3, t4, -, t6, t7⟩ := hT
  have c0 : H[b0]? = some sc := (hS.2.1 b0 (Array.getElem?_eq_some_iff.mp t1).1 t7).trans t1
  have c1 : H[b1]? = some (vp_cell (cy 0) (z, .inl g)) := hP 0 _ rfl
  obtain ⟨u1, k0, hk0, u2, u3⟩ := t2
  obtain ⟨-, k1, hk1, u4, u5⟩ := (hK.2 0 _ rfl).1 z (fun j => .int (g j))
  have zc : (nI z).toNatClampNeg = z := nI_clamp hz
  have zi : (nI z).toInt = (z : Int) := by
    have h9 : ¬ nI z < 0 := nI_pos hz
    have h8 : (0 : Int) ≤ (nI z).toInt := by
      have := Int32.not_lt.mp h9
      simpa using Int32.le_iff_toInt_le.mp this
    have h7 : ((nI z).toInt.toNat : Nat) = z := zc
    omega
  intro T hT9 X9
  obtain ⟨vm', X', step⟩ := X9.arraycopy hx hown hlink hnat hstat hini (src := b0) (dst := b1) (cs := sc) (cd := vp_cell (cy 0) (z, .inl g)) (srcPos := 0) (destPos := 0) (n := nI z) (by rw [hT9]; exact c0) (by rw [hT9]; exact c1)
    u1 (fun _ h => by cases h) t3 (fun h => by cases h) hk0 hk1 u3 u5 (by simp [refKind]) (by decide) (by decide) (nI_pos hz)
    (by rw [zi]; show ¬ ((0 : Int) + (z : Int) > (sc.slots.size : Int)); omega)
    (by rw [zi]; show ¬ ((0 : Int) + (z : Int) > ((arrV (cy 0) z (fun j => .int (g j))).slots.size : Int)); rw [arrV_size]; omega)
    (fun vm₁ _ i hi => by
      have hi9 : i < z := by rw [← zc]; exact hi
      have e9 : sc.slots.getD ((0 : Int32).toNatClampNeg + i) .null = .int (f (0 + i)) := by
        rw [Array.getD_eq_getD_getElem?, show (0 : Int32).toNatClampNeg + i = 0 + i from rfl, t6 _ (by omega)]
        rfl
      rw [e9]
      exact ⟨rfl, trivial⟩)
    (g := F0 m pc ls (.int (nI z) :: .int 0 :: .ref b1 :: .int 0 :: .ref b0 :: rest)) rfl (by rw [hml]) (rest := rest) rfl (by rw [hb]; exact hdg) hframes (by show 2 * 0 + _ + _ ≤ _; omega)
  have e1 : copied sc (vp_cell (cy 0) (z, .inl g)) 0 0 (nI z) = vp_cell (cy 0) (z, .inl (va_cpy f g 0 0 (nI z).toNatClampNeg)) := va_copiedX (n0 := z) (sp := (0 : Int32).toNatClampNeg) (dp := (0 : Int32).toNatClampNeg) (n := (nI z).toNatClampNeg) (fun v => .int v) sc (cy 0) f g t6 (by rw [zc]; exact Nat.le_of_eq (Nat.zero_add z))
  rw [zc] at e1
  rw [e1] at X' step
  have hl : b1 < H.size := (Array.getElem?_eq_some_iff.mp c1).1
  have oq : ∀ q : Nat, q ≠ b1 → (H.setIfInBounds b1 (vp_cell (cy 0) (z, .inl (va_cpy f g 0 0 z))))[q]? = H[q]? := fun q hq => by simp [Array.getElem?_setIfInBounds, Ne.symm hq]
  have hA1 : A b1 := hD.2 0 _ rfl
  have hh : ((T.setVm vm').setCell b1 (vp_cell (cy 0) (z, .inl (va_cpy f g 0 0 z)))).heap = H.setIfInBounds b1 (vp_cell (cy 0) (z, .inl (va_cpy f g 0 0 z))) := by rw [← hT9]; rfl
  obtain ⟨t, a1, a2⟩ := kk _ _ (hP.set hD (p := 0) rfl (show (H.setIfInBounds b1 _)[b1]? = some _ by simp [Array.getElem?_setIfInBounds, hl]) oq) (hD.set (p := 0) rfl) ⟨by simp; exact hS.1, fun q g1 g2 => (oq q (fun h9 => g2 (by rw [h9]; exact hA1))).trans (hS.2.1 q g1 g2), fun q hq => by
      rcases List.mem_append.mp hq with h | h
      · exact hS.2.2 q h
      · obtain ⟨i, -, hi⟩ := List.mem_map.mp h
        rw [← hi]
        exact hA1⟩ _ hh X'
  exact ⟨t, step t a1, a2⟩
end RUNN
