/-! methods that may throw: k = 0 says that it returns, k = 1, 2, 3 which exception leaves it -/
abbrev QXV (D : va_G) (cy : Nat → Nat) (k : Nat) (ws : va_W) (A : Nat → Prop) := va_Qv (fun (_ : Unit) => k = 0) (fun _ t => cEnd D cy ws A t) A
abbrev QXI (D : va_G) (cy : Nat → Nat) (k : Nat) (r : Int32) (ws : va_W) (A : Nat → Prop) := va_Qi (fun (x : Int32) (_ : Unit) => k = 0 ∧ x = r) (fun _ t => cEnd D cy ws A t) A
abbrev QXL (D : va_G) (cy : Nat → Nat) (k : Nat) (r : Int64) (ws : va_W) (A : Nat → Prop) := va_Ql (fun (x : Int64) (_ : Unit) => k = 0 ∧ x = r) (fun _ t => cEnd D cy ws A t) A
abbrev XX (D : va_G) (cy : Nat → Nat) (k : Nat) (ws : va_W) (A : Nat → Prop) := vx_X (fun (_ : Unit) => k ≠ 0) (fun E _ t => E = exN k ∧ cEnd D cy ws A t) A
abbrev CX (l : Launch) (y : MethodName) (wd : List Cond) (rm : Room) (D : va_G) (cy : Nat → Nat) (av : List Value) (ws : va_W) (mc ms : Nat) (k : Nat) (Qc : (Nat → Prop) → Array Value → State → Outcome → State → Prop) (ws' : va_W) : Prop :=
  ∀ sz : Nat, vx_Met l y wd rm (va_Pc av (cPre D cy ws sz)) (Qc (va_A ws sz)) (XX D cy k ws' (va_A ws sz)) mc ms (va_A ws sz)
abbrev CXV (l : Launch) (y : MethodName) (wd : List Cond) (rm : Room) (D : va_G) (cy : Nat → Nat) (av : List Value) (ws : va_W) (mc ms : Nat) (k : Nat) (ws' : va_W) : Prop := CX l y wd rm D cy av ws mc ms k (QXV D cy k ws') ws'
abbrev CXI (l : Launch) (y : MethodName) (wd : List Cond) (rm : Room) (D : va_G) (cy : Nat → Nat) (av : List Value) (ws : va_W) (mc ms : Nat) (k : Nat) (r : Int32) (ws' : va_W) : Prop := CX l y wd rm D cy av ws mc ms k (QXI D cy k r ws') ws'
abbrev CXL (l : Launch) (y : MethodName) (wd : List Cond) (rm : Room) (D : va_G) (cy : Nat → Nat) (av : List Value) (ws : va_W) (mc ms : Nat) (k : Nat) (r : Int64) (ws' : va_W) : Prop := CX l y wd rm D cy av ws mc ms k (QXL D cy k r ws') ws'
theorem CX_of {l : Launch} {y : MethodName} {wd ws9 : List Cond} {rm : Room} {D : va_G} {cy : Nat → Nat} {av : List Value} {ws : va_W} {mc ms k : Nat} {Qc : (Nat → Prop) → Array Value → State → Outcome → State → Prop} {ws' : va_W} {cc : ByteArray} {maxL : Nat} {ret : Option FieldType}
    (hy : plainName y.cls = true) (hw : wd = Cond.code y cc maxL ret :: ws9) (hlen : (lg_sl av).length ≤ maxL)
    (body : ∀ (p : Program) (e : Env) (s : State) (m : MethodId) (args : Array Value) (below : List Frame) (meth : Method) (c : Code) (A : Nat → Prop) (ls : Array Slot),
      p.tables.exec = Jvm.exec → c.code = cc → meth.sig.returnType = ret → c.maxLocals = maxL → meth.locks = false → meth.name = y.name → s.vm.findClass y.cls = some m.cls → (∀ w ∈ wd, w.before args s = true) → (∀ q, s.heap.size ≤ q → A q) → (∀ x ∈ c.exceptionTable.toList, False) →
      va_K D vwCl (tyl cy) s → cG cy A s s.heap → va_P D vwCl ws s.heap → va_D A ws → va_S A s.heap s.heap [] → lv_has ls maxL (lv_args 0 av) →
      W p l e rm s m args below meth c s.heap [] 0 0 (vx_MQ below (Qc A) (XX D cy k ws' A) args s mc ms A) (F0 m 0 ls [])) : CX l y wd rm D cy av ws mc ms k Qc ws' := by
  intro sz
  refine vx_ofW (cc := cc) (maxL := maxL) (ret := ret) hy hw ?_
  intro p e s m args below meth c s₁ B hml htab hv
  obtain ⟨rfl, hsz, hP, hK, hD0, hN⟩ := hv
  subst hsz
  have hts := atoms_spec (ws := wd) B.pre
  have hl := lv_entry av (n := maxL) hlen
  rw [lg_entry_eq]
  exact body p e s m av.toArray below meth c (va_A ws s.heap.size) _ B.exec B.bytes B.returns hml B.notSynchronized (name_of_methodNamed B.named B.method).1 (findClass_of_methodNamed B.named) hts (fun q h => Or.inr h) htab hK hN hP hD0.self va_S.rf hl
section RUNX
variable {p : Program} {l : Launch} {e : Env} {R : Room} {s : State} {m : MethodId} {args : Array Value} {below : List Frame} {meth : Method} {c : Code} {H : Heap} {locs : List Loc} {cells slots : Nat} {Q : State → Prop}
variable {y : MethodName} {bytes cc : ByteArray} {maxL nL mc ms n index k : Nat} {ret : Option FieldType} {wd : List Cond} {rm : Room} {Ts : List Cond} {own C : String} {b : Addr} {As rest st0 : List Value} {pc : Nat} {ls : Array Slot} {D : va_G} {cy : Nat → Nat} {A : Nat → Prop} {ws X wc wc' Y : va_W} {Qc : (Nat → Prop) → Array Value → State → Outcome → State → Prop}
theorem xV (S : CallFix p m c cc nL s args Ts own) (hM : CX l y wd rm D cy (.ref b :: As) wc mc ms k Qc wc') (cw : CallW R s args own C index y bytes maxL ret wd rm mc ms n) (hK : va_K D vwCl (tyl cy) s) (hN : cG cy A s s.heap) (hP : va_P D vwCl ws H) (hD : va_D A ws) (hS : va_S A s.heap H locs) (hA : ∀ q, s.heap.size ≤ q → A q) (hws : ws = X ++ (wc ++ Y))
    (q0 ci : Nat) {fs : List Value} {T : u_T} {N : Nat} (hrec : wc[q0]? = some (b, .inr (ci, fs))) (hcl : vwCl[ci]? = some (C, T, N)) (hn : As.length = n) (hsize : ls.size = nL) (hstack : st0 = As.reverse ++ .ref b :: rest) (hW : 2 * (F0 m pc ls st0).monitorRoom + (rest.map fun v => v.category).sum ≤ 8) (hdg : decode cc pc = .ok (.invokevirtual index, 3)) (hf : cells + mc ≤ R.cells ∧ slots + ms ≤ R.slots) :
    vx_Run p l e R s m args below meth c H locs cells slots mc ms (F0 m pc ls st0) rest (Qc (va_A wc H.size) (Value.ref b :: As).toArray) (XX D cy k wc' (va_A wc H.size)) (va_A wc H.size) := by
  subst hws
  have hPc : va_P D vwCl wc H := va_P_l (va_P_r hP)
  have hDc : va_D A wc := va_D_l (va_D_r hD)
  exact vx_runV S (hM H.size) cw ⟨cPre_blind D cy _ wc H.size, va_recv hK hPc (q := (C, T, N)) hcl hrec, fun U hU hW => ⟨rfl, by rw [hU], by rw [hU]; exact hPc, va_K.moved hW.alike hK, hDc.weaken (fun _ _ _ _ => trivial), by rw [hU]; exact hN.call hS (aW_free hD hS hA) hW⟩⟩ rfl hn hsize hstack hW hdg hf
theorem xS (S : CallFix p m c cc nL s args Ts own) (hM : CX l y wd rm D cy As wc mc ms k Qc wc') (cw : CallB R s args own index y bytes maxL ret wd rm mc ms n ∧ (Cond.static y).before args s = true) (hK : va_K D vwCl (tyl cy) s) (hN : cG cy A s s.heap) (hP : va_P D vwCl ws H) (hD : va_D A ws) (hS : va_S A s.heap H locs) (hA : ∀ q, s.heap.size ≤ q → A q) (hws : ws = X ++ (wc ++ Y))
    (hn : As.length = n) (hsize : ls.size = nL) (hstack : st0 = As.reverse ++ rest) (hW : 2 * (F0 m pc ls st0).monitorRoom + (rest.map fun v => v.category).sum ≤ 8) (hdg : decode cc pc = .ok (.invokestatic index, 3)) (hf : cells + mc ≤ R.cells ∧ slots + ms ≤ R.slots) :
    vx_Run p l e R s m args below meth c H locs cells slots mc ms (F0 m pc ls st0) rest (Qc (va_A wc H.size) As.toArray) (XX D cy k wc' (va_A wc H.size)) (va_A wc H.size) := by
  subst hws
  have hPc : va_P D vwCl wc H := va_P_l (va_P_r hP)
  have hDc : va_D A wc := va_D_l (va_D_r hD)
  exact vx_runS S (hM H.size) cw ⟨cPre_blind D cy _ wc H.size, fun U hU hW => ⟨rfl, by rw [hU], by rw [hU]; exact hPc, va_K.moved hW.alike hK, hDc.weaken (fun _ _ _ _ => trivial), by rw [hU]; exact hN.call hS (aW_free hD hS hA) hW⟩⟩ rfl hn hsize hstack hW hdg hf
variable {a : Array Value} {r : Int32} {rl : Int64}
theorem kxv (hr : vx_Run p l e R s m args below meth c H locs cells slots mc ms (F0 m pc ls st0) rest (QXV D cy k wc' (va_A wc H.size) a) (XX D cy k wc' (va_A wc H.size)) (va_A wc H.size)) (hP : va_P D vwCl ws H) (hD : va_D A ws) (hS : va_S A s.heap H locs) (hA : ∀ q, s.heap.size ≤ q → A q) (hws : ws = X ++ (wc ++ Y)) (hfst : wc'.map (·.1) = wc.map (·.1)) {ws1 : va_W} (hws1 : X ++ (wc' ++ Y) = ws1)
    (kx : k ≠ 0 → ∀ (H1 : Heap) (locs1 : List Loc) (ce : Cell) (q9 : Addr), va_P D vwCl ws1 H1 → va_D A ws1 → va_S A s.heap H1 locs1 → H1[q9]? = some ce → ce.vm = .none → s.vm.findClass (exN k) = some ce.cls → vx_W p l e R s m args below meth c H1 locs1 (cells + mc) (slots + ms) Q (F0 m pc ls rest) q9)
    (kk : k = 0 → ∀ (H1 : Heap) (locs1 : List Loc), va_P D vwCl ws1 H1 → va_D A ws1 → va_S A s.heap H1 locs1 → W p l e R s m args below meth c H1 locs1 (cells + mc) (slots + ms) Q (F0 m (pc + 3) ls rest)) : W p l e R s m args below meth c H locs cells slots Q (F0 m pc ls st0) := by
  subst hws
  subst hws1
  have hF := aW_free hD hS hA
  refine vx_callv hr hS (fun q _ h => hF q h) hF (fun q _ h => hF q h) (fun E ce q9 u t H1 locs1 ht hvm hp hB hz1 hk1 hS1 hce hcv hcl => ?_) (fun u t H1 locs1 ht hvm hw hB hz1 hk1 hS1 => ?_)
  · obtain ⟨rfl, hP1, -, hD1⟩ := hB
    rw [ht] at hP1
    obtain ⟨g1, g2⟩ := fr1 hP hD hk1 hP1 hfst
    exact kx hp H1 locs1 ce q9 g1 g2 hS1 hce hcv hcl
  · obtain ⟨hP1, -, hD1⟩ := hB
    rw [ht] at hP1
    obtain ⟨g1, g2⟩ := fr1 hP hD hk1 hP1 hfst
    exact kk hw H1 locs1 g1 g2 hS1
theorem kxi (hr : vx_Run p l e R s m args below meth c H locs cells slots mc ms (F0 m pc ls st0) rest (QXI D cy k r wc' (va_A wc H.size) a) (XX D cy k wc' (va_A wc H.size)) (va_A wc H.size)) (hP : va_P D vwCl ws H) (hD : va_D A ws) (hS : va_S A s.heap H locs) (hA : ∀ q, s.heap.size ≤ q → A q) (hws : ws = X ++ (wc ++ Y)) (hfst : wc'.map (·.1) = wc.map (·.1)) {ws1 : va_W} (hws1 : X ++ (wc' ++ Y) = ws1)
    (kx : k ≠ 0 → ∀ (H1 : Heap) (locs1 : List Loc) (ce : Cell) (q9 : Addr), va_P D vwCl ws1 H1 → va_D A ws1 → va_S A s.heap H1 locs1 → H1[q9]? = some ce → ce.vm = .none → s.vm.findClass (exN k) = some ce.cls → vx_W p l e R s m args below meth c H1 locs1 (cells + mc) (slots + ms) Q (F0 m pc ls rest) q9)
    (kk : k = 0 → ∀ (H1 : Heap) (locs1 : List Loc), va_P D vwCl ws1 H1 → va_D A ws1 → va_S A s.heap H1 locs1 → W p l e R s m args below meth c H1 locs1 (cells + mc) (slots + ms) Q (F0 m (pc + 3) ls (.int r :: rest))) : W p l e R s m args below meth c H locs cells slots Q (F0 m pc ls st0) := by
  subst hws
  subst hws1
  have hF := aW_free hD hS hA
  refine vx_calli hr hS (fun q _ h => hF q h) hF (fun q _ h => hF q h) (fun E ce q9 u t H1 locs1 ht hvm hp hB hz1 hk1 hS1 hce hcv hcl => ?_) (fun x u t H1 locs1 ht hvm hw hB hz1 hk1 hS1 => ?_)
  · obtain ⟨rfl, hP1, -, hD1⟩ := hB
    rw [ht] at hP1
    obtain ⟨g1, g2⟩ := fr1 hP hD hk1 hP1 hfst
    exact kx hp H1 locs1 ce q9 g1 g2 hS1 hce hcv hcl
  · obtain ⟨hP1, -, hD1⟩ := hB
    rw [ht] at hP1
    obtain ⟨hw, rfl⟩ := hw
    obtain ⟨g1, g2⟩ := fr1 hP hD hk1 hP1 hfst
    exact kk hw H1 locs1 g1 g2 hS1
theorem kxl (hr : vx_Run p l e R s m args below meth c H locs cells slots mc ms (F0 m pc ls st0) rest (QXL D cy k rl wc' (va_A wc H.size) a) (XX D cy k wc' (va_A wc H.size)) (va_A wc H.size)) (hP : va_P D vwCl ws H) (hD : va_D A ws) (hS : va_S A s.heap H locs) (hA : ∀ q, s.heap.size ≤ q → A q) (hws : ws = X ++ (wc ++ Y)) (hfst : wc'.map (·.1) = wc.map (·.1)) {ws1 : va_W} (hws1 : X ++ (wc' ++ Y) = ws1)
    (kx : k ≠ 0 → ∀ (H1 : Heap) (locs1 : List Loc) (ce : Cell) (q9 : Addr), va_P D vwCl ws1 H1 → va_D A ws1 → va_S A s.heap H1 locs1 → H1[q9]? = some ce → ce.vm = .none → s.vm.findClass (exN k) = some ce.cls → vx_W p l e R s m args below meth c H1 locs1 (cells + mc) (slots + ms) Q (F0 m pc ls rest) q9)
    (kk : k = 0 → ∀ (H1 : Heap) (locs1 : List Loc), va_P D vwCl ws1 H1 → va_D A ws1 → va_S A s.heap H1 locs1 → W p l e R s m args below meth c H1 locs1 (cells + mc) (slots + ms) Q (F0 m (pc + 3) ls (.long rl :: rest))) : W p l e R s m args below meth c H locs cells slots Q (F0 m pc ls st0) := by
  subst hws
  subst hws1
  have hF := aW_free hD hS hA
  refine vx_calll hr hS (fun q _ h => hF q h) hF (fun q _ h => hF q h) (fun E ce q9 u t H1 locs1 ht hvm hp hB hz1 hk1 hS1 hce hcv hcl => ?_) (fun x u t H1 locs1 ht hvm hw hB hz1 hk1 hS1 => ?_)
  · obtain ⟨rfl, hP1, -, hD1⟩ := hB
    rw [ht] at hP1
    obtain ⟨g1, g2⟩ := fr1 hP hD hk1 hP1 hfst
    exact kx hp H1 locs1 ce q9 g1 g2 hS1 hce hcv hcl
  · obtain ⟨hP1, -, hD1⟩ := hB
    rw [ht] at hP1
    obtain ⟨hw, rfl⟩ := hw
    obtain ⟨g1, g2⟩ := fr1 hP hD hk1 hP1 hfst
    exact kk hw H1 locs1 g1 g2 hS1
/-- what a callee threw leaves this method too -/
theorem exx {ws' : va_W} {k1 : Nat} {Qn : Array Value → State → Outcome → State → Prop} {q9 : Addr} {ce : Cell} (htab : ∀ x ∈ c.exceptionTable.toList, False) (hlocks : meth.locks = false) (hK : va_K D vwCl (tyl cy) s) (hP : va_P D vwCl ws H) (hD : va_D A ws) (hS : va_S A s.heap H locs) (hce : H[q9]? = some ce) (hcv : ce.vm = .none) (hcl : s.vm.findClass (exN k1) = some ce.cls) (hk0 : k1 ≠ 0) (hk : k1 = k) (hw : ws = ws') (hc : cells ≤ mc) (hs : slots ≤ ms) :
    vx_W p l e R s m args below meth c H locs cells slots (vx_MQ below Qn (XX D cy k ws' A) args s mc ms A) (F0 m pc ls rest) q9 := by
  subst hw
  subst hk
  exact vx_out (fun x hx => (htab x hx).elim) hlocks hce hcv hcl (fun t ht hal => ⟨(), hk0, ⟨rfl, by rw [ht]; exact hP, va_K.moved hal hK, hD⟩, hS.F ht⟩) hS.2.2 hc hs
theorem exi {v : Int32} {ws' : va_W} (hx : p.tables.exec = Jvm.exec) (hb : c.code = cc) (hr : meth.sig.returnType = some .int) (hlocks : meth.locks = false) (hK : va_K D vwCl (tyl cy) s) (hP : va_P D vwCl ws H) (hD : va_D A ws) (hS : va_S A s.heap H locs) (h0 : 0 = k) (hv : v = r) (hw : ws = ws') (hc : cells ≤ mc) (hs : slots ≤ ms) (hdg : decode cc pc = .ok (.ireturn, 1)) :
    W p l e R s m args below meth c H locs cells slots (vx_MQ below (QXI D cy k r ws' A) (XX D cy k ws' A) args s mc ms A) (F0 m pc ls [.int v]) := by
  subst hw
  refine vx_ret (W.widen hc hs ?_)
  exact W.iret hx hb hr (fun t ht hW => ⟨⟨v, (), rfl, ⟨h0.symm, hv⟩, by rw [ht]; exact hP, va_K.moved hW.alike hK, hD⟩, hS.F ht⟩) hS.2.2 hdg
theorem exl {v : Int64} {ws' : va_W} (hx : p.tables.exec = Jvm.exec) (hb : c.code = cc) (hr : meth.sig.returnType = some .long) (hlocks : meth.locks = false) (hK : va_K D vwCl (tyl cy) s) (hP : va_P D vwCl ws H) (hD : va_D A ws) (hS : va_S A s.heap H locs) (h0 : 0 = k) (hv : v = rl) (hw : ws = ws') (hc : cells ≤ mc) (hs : slots ≤ ms) (hdg : decode cc pc = .ok (.lreturn, 1)) :
    W p l e R s m args below meth c H locs cells slots (vx_MQ below (QXL D cy k rl ws' A) (XX D cy k ws' A) args s mc ms A) (F0 m pc ls [.long v]) := by
  subst hw
  refine vx_ret (W.widen hc hs ?_)
  exact W.lret hx hb hr (fun t ht hW => ⟨⟨v, (), rfl, ⟨h0.symm, hv⟩, by rw [ht]; exact hP, va_K.moved hW.alike hK, hD⟩, hS.F ht⟩) hS.2.2 hdg
theorem exv {ws' : va_W} (hx : p.tables.exec = Jvm.exec) (hb : c.code = cc) (hr : meth.sig.returnType = none) (hlocks : meth.locks = false) (hK : va_K D vwCl (tyl cy) s) (hP : va_P D vwCl ws H) (hD : va_D A ws) (hS : va_S A s.heap H locs) (h0 : 0 = k) (hw : ws = ws') (hc : cells ≤ mc) (hs : slots ≤ ms) (hdg : decode cc pc = .ok (.return_, 1)) :
    W p l e R s m args below meth c H locs cells slots (vx_MQ below (QXV D cy k ws' A) (XX D cy k ws' A) args s mc ms A) (F0 m pc ls []) := by
  subst hw
  refine vx_ret (W.widen hc hs ?_)
  exact W.vret hx hb hr (fun t ht hW => ⟨⟨(), rfl, h0.symm, by rw [ht]; exact hP, va_K.moved hW.alike hK, hD⟩, hS.F ht⟩) hS.2.2 hdg
/-- a throw of refuse's -/
theorem ext {ws' : va_W} {Qn : Array Value → State → Outcome → State → Prop} {j : Nat} {ik : Nat} (hx : p.tables.exec = Jvm.exec) (hb : c.code = cc) (hst : l.stackTraces = false) (htab : ∀ x ∈ c.exceptionTable.toList, False) (hlocks : meth.locks = false) (hown : s.vm.findClass RX8 = some m.cls) (hK : va_K D vwCl (tyl cy) s) (hN : cG cy A s s.heap) (hP : va_P D vwCl ws H) (hD : va_D A ws) (hS : va_S A s.heap H locs) (j0 : 0 < j) (j4 : j < 4) (hk : j = k) (hw : ws = ws') (hsize : ls.size = c.maxLocals)
    (hfit : Bundle.fit (exN j) = true) (hfx : ∀ n ∈ exX, Bundle.fit n = true)
    (hcl : (Cond.classLink RX8 ik (exN j)).before args s = true) (hini : (Cond.initialized (exN j)).before args s = true) (hat : ∀ w ∈ (vx_atS RX8 (exC j) (exN j) exX).filter goodWord, w.before args s = true)
    (hgood : ∀ w ∈ Cond.classLink RX8 ik (exN j) :: Cond.initialized (exN j) :: vx_atS RX8 (exC j) (exN j) exX, vx_ot w = true)
    (d0 : decode cc pc = .ok (.new ik, 3)) (d3 : decode cc (pc + 3) = .ok (.dup, 1)) (d4 : decode cc (pc + 4) = .ok (.ldc_w (exS j), 3)) (d7 : decode cc (pc + 7) = .ok (.invokespecial (exC j), 3)) (d10 : decode cc (pc + 10) = .ok (.athrow, 1))
    (hRf : 5 < R.frames) (hRl : (rest.map fun v => v.category).sum + 82 ≤ R.locals) (hRc : cells + 1 ≤ R.cells) (hRs : slots + 6 ≤ R.slots) (hc : cells + 1 ≤ mc) (hs : slots + 6 ≤ ms) :
    W p l e R s m args below meth c H locs cells slots (vx_MQ below Qn (XX D cy k ws' A) args s mc ms A) (F0 m pc ls rest) := by
  subst hw
  subst hk
  obtain ⟨hstr, hB⟩ := hN.2.2.2.2.2 j j0 j4
  refine vx_throwSW hx hb hst hown hfit hfx hcl hini hstr (vx_hat hat (fun w h => h) (fun w h => (hB w h).use (exB_tab j0 j4 h))) hgood hN.2.2.2.1 hN.2.2.2.2.1 hS hsize d0 d3 d4 d7 d10 (fun x hx => (htab x hx).elim) hRf hRl hRc hRs hlocks (fun t hal hz hk => ?_) hS.2.2 hc hs
  refine ⟨(), (by omega), ⟨rfl, ?_, va_K.moved hal hK, hD⟩, ?_⟩
  · exact hP.kept fun k9 q9 hq => hk q9.1 (hP k9 q9 hq).lt
  · exact ⟨Nat.le_trans hS.1 hz, fun q h1 h2 => by rw [hk q (Nat.lt_of_lt_of_le h1 hS.1)]; exact hS.2.1 q h1 h2⟩
end RUNX
abbrev rm_X8_refuse : Room := { frames := 6, cells := 1, slots := 6, locals := 82 }
set_option maxHeartbeats 4000000 in
set_option maxRecDepth 100000 in
theorem c_X8_refuse (l : Launch) (hst : l.stackTraces = false) (D : va_G) (cy : Nat → Nat) (x0 : Int32) (k' : Nat) (hE : f_X8_refuse x0 = some k') : CXV l yX8_refuse wsX8_refuse rm_X8_refuse D cy [.int x0] [] 1 6 k' [] := by
  refine CX_of (cc := cX8_refuse) (maxL := 1) (ret := none) (by decide) rfl (Nat.le_of_ble_eq_true rfl) (fun p e s m args below meth c A ls hx hb hr hml hlocks hnm hown hts hA htab hK hN hP hD hS hl => ?_)
  have hown : s.vm.findClass RX8 = some m.cls := hown
  have hl : lv_has ls 1 [(0, .int x0)] := hl
  have hE := Option.some.inj hE
  have hsz : ls.size = c.maxLocals := hl.1.trans hml.symm
  refine lv_iload_n hx hb dX8_refuse_0 rfl (lv_at hl 0 rfl) ?_
  refine lv_iconst (v := 1) hx hb dX8_refuse_1 (by decide) ?_
  refine lv_icmp_ne (tgt := 16) hx hb dX8_refuse_2 (by decide) (fun c1 => ?_) (fun c1 => ?_)
  · rw [if_neg c1] at hE
    refine lv_iload_n hx hb dX8_refuse_16 rfl (lv_at hl 0 rfl) ?_
    refine lv_iconst (v := 2) hx hb dX8_refuse_17 (by decide) ?_
    refine lv_icmp_ne (tgt := 32) hx hb dX8_refuse_18 (by decide) (fun c2 => ?_) (fun c2 => ?_)
    · rw [if_neg c2] at hE
      refine lv_iload_n hx hb dX8_refuse_32 rfl (lv_at hl 0 rfl) ?_
      refine lv_iconst (v := 3) hx hb dX8_refuse_33 (by decide) ?_
      refine lv_icmp_ne (tgt := 48) hx hb dX8_refuse_34 (by decide) (fun c3 => ?_) (fun c3 => ?_)
      · rw [if_neg c3] at hE
        exact exv hx hb hr hlocks hK hP hD hS hE rfl (Nat.zero_le _) (Nat.zero_le _) dX8_refuse_48
      · rw [if_pos c3] at hE
        exact ext (j := 3) (ik := 288) hx hb hst htab hlocks hown hK hN hP hD hS (by decide) (by decide) hE rfl hsz (by decide) (by decide) (hts _ (mC qg_X8_288)) (hts _ (mC qn_IllegalStateException)) (fun w h => hts w (mC (exA_3 w h))) (by decide +kernel) dX8_refuse_37 dX8_refuse_40 dX8_refuse_41 dX8_refuse_44 dX8_refuse_47 (Nat.le_of_ble_eq_true rfl) (Nat.le_of_ble_eq_true rfl) (Nat.le_of_ble_eq_true rfl) (Nat.le_of_ble_eq_true rfl) (Nat.le_of_ble_eq_true rfl) (Nat.le_of_ble_eq_true rfl)
    · rw [if_pos c2] at hE
      exact ext (j := 2) (ik := 283) hx hb hst htab hlocks hown hK hN hP hD hS (by decide) (by decide) hE rfl hsz (by decide) (by decide) (hts _ (mC qg_X8_283)) (hts _ (mC qn_IllegalArgumentException)) (fun w h => hts w (mC (exA_2 w h))) (by decide +kernel) dX8_refuse_21 dX8_refuse_24 dX8_refuse_25 dX8_refuse_28 dX8_refuse_31 (Nat.le_of_ble_eq_true rfl) (Nat.le_of_ble_eq_true rfl) (Nat.le_of_ble_eq_true rfl) (Nat.le_of_ble_eq_true rfl) (Nat.le_of_ble_eq_true rfl) (Nat.le_of_ble_eq_true rfl)
  · rw [if_pos c1] at hE
    exact ext (j := 1) (ik := 276) hx hb hst htab hlocks hown hK hN hP hD hS (by decide) (by decide) hE rfl hsz (by decide) (by decide) (hts _ (mC qg_X8_276)) (hts _ (mC qn_IndexOutOfBoundsException)) (fun w h => hts w (mC (exA_1 w h))) (by decide +kernel) dX8_refuse_5 dX8_refuse_8 dX8_refuse_9 dX8_refuse_12 dX8_refuse_15 (Nat.le_of_ble_eq_true rfl) (Nat.le_of_ble_eq_true rfl) (Nat.le_of_ble_eq_true rfl) (Nat.le_of_ble_eq_true rfl) (Nat.le_of_ble_eq_true rfl) (Nat.le_of_ble_eq_true rfl)
