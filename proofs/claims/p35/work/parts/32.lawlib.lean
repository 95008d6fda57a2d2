/-! the law's own methods: they catch, so that they need to know which class is which -/
def cX (U : State) : Prop := (∀ k : Nat, 0 < k → k < 4 → va_Nw (.castable (exN k) (exN k)) U) ∧ ∀ j k : Nat, 0 < j → j < 4 → 0 < k → k < 4 → j ≠ k → va_Nc (exN j) (exN k) U
theorem cX.warm {s U : State} (hW : s.WarmedH U.vm) (h : cX s) : cX U :=
  ⟨fun k k0 k4 => va_tabs rfl (rfl : (s.setVm U.vm).vm = U.vm) ((Cond.castable_setVm hW.alike _ _).trans (h.1 k k0 k4)), fun j k j0 j4 k0 k4 jk => (h.2 j k j0 j4 k0 k4 jk).moved hW.alike⟩
theorem cX.same {u U : State} (hv : u.vm = U.vm) (h : cX u) : cX U :=
  ⟨fun k k0 k4 => va_Nw.same rfl hv (h.1 k k0 k4), fun j k j0 j4 k0 k4 jk => (h.2 j k j0 j4 k0 k4 jk).moved (by rw [hv]; exact Vm.Alike.refl _)⟩
def cPreL (D : va_G) (cy : Nat → Nat) (ws : va_W) (sz : Nat) (U : State) : Prop := cPre D cy ws sz U ∧ cX U
theorem cPreL_blind (D : va_G) (cy : Nat → Nat) (av : List Value) (ws : va_W) (sz : Nat) : FrameBlind (va_Pc av (cPreL D cy ws sz)) := fun a U g mk q => by
  obtain ⟨q0, q1, q2⟩ := q
  obtain ⟨p0, p1⟩ := cPre_blind D cy av ws sz a U g mk ⟨q0, q1⟩
  exact ⟨p0, p1, cX.same (u := U) (U := U.calling g mk a) rfl q2⟩
abbrev CH (l : Launch) (y : MethodName) (wd : List Cond) (rm : Room) (D : va_G) (cy : Nat → Nat) (av : List Value) (ws : va_W) (mc ms : Nat) (Qc : (Nat → Prop) → Array Value → State → Outcome → State → Prop) : Prop :=
  ∀ sz : Nat, Met l y wd rm (va_Pc av (cPreL D cy ws sz)) (Qc (va_A ws sz)) mc ms (va_A ws sz)
theorem CH_of {l : Launch} {y : MethodName} {wd ws9 : List Cond} {rm : Room} {D : va_G} {cy : Nat → Nat} {av : List Value} {ws : va_W} {mc ms : Nat} {Qc : (Nat → Prop) → Array Value → State → Outcome → State → Prop} {cc : ByteArray} {maxL : Nat} {ret : Option FieldType} {hh : List (Nat × Nat × Nat × Nat)}
    (hy : plainName y.cls = true) (hw : wd = Cond.codeWith y cc maxL ret hh :: ws9) (hlen : (lg_sl av).length ≤ maxL)
    (body : ∀ (p : Program) (e : Env) (s : State) (m : MethodId) (args : Array Value) (below : List Frame) (meth : Method) (c : Code) (A : Nat → Prop) (ls : Array Slot),
      p.tables.exec = Jvm.exec → c.code = cc → meth.sig.returnType = ret → c.maxLocals = maxL → meth.locks = false → s.vm.findClass y.cls = some m.cls → (∀ w ∈ wd, w.before args s = true) → (∀ q, s.heap.size ≤ q → A q) → c.exceptionTable.toList = tableOf hh →
      va_K D vwCl (tyl cy) s → cG cy A s s.heap → cX s → va_P D vwCl ws s.heap → va_D A ws → va_S A s.heap s.heap [] → lv_has ls maxL (lv_args 0 av) →
      W p l e rm s m args below meth c s.heap [] 0 0 (MQ below (Qc A) args s mc ms A) (F0 m 0 ls [])) : CH l y wd rm D cy av ws mc ms Qc := by
  intro sz
  refine MetFree.of_bodyS (code := cc) (maxLocals := maxL) (ret := ret) hy ?_ ?_
  · intro args s m h hn
    obtain ⟨m9, meth, c, hn9, h1, h2, h3, h4, -, h5, h6, -⟩ := Cond.codeWith_spec (atoms_spec (ws := wd) h _ (by rw [hw]; exact List.mem_cons_self))
    cases hn.symm.trans hn9
    exact ⟨meth, c, h1, h2, h3, h4, h5, h6⟩
  · intro p e s m args below meth c s₁ B hml hv _
    obtain ⟨rfl, ⟨hsz, hP, hK, hD0, hN⟩, hX⟩ := hv
    subst hsz
    have hts := atoms_spec (ws := wd) B.pre
    have htab : c.exceptionTable.toList = tableOf hh := vx_table (x := y) B (hts _ (by rw [hw]; exact List.mem_cons_self))
    have hl := lv_entry av (n := maxL) hlen
    have hh0 : s₁.heap = s.heap := by rw [B.state]; rfl
    have key : W p l e rm s m av.toArray below meth c s.heap [] 0 0 (MQ below (Qc (va_A ws s.heap.size)) av.toArray s mc ms (va_A ws s.heap.size)) (entryFrame m av.toArray maxL) := by
      rw [lg_entry_eq]
      exact body p e s m av.toArray below meth c (va_A ws s.heap.size) _ B.exec B.bytes B.returns hml B.notSynchronized (findClass_of_methodNamed B.named) hts (fun q h => Or.inr h) htab hK hN hX hP hD0.self va_S.rf hl
    obtain ⟨t, a1, o, b1, b2, b3⟩ := key s₁ hh0 (Stand.of_body B)
    exact ⟨t, o, a1, b1, b2, ⟨b3.1, b3.2⟩⟩
theorem CHp_of {l : Launch} {y : MethodName} {wd ws9 : List Cond} {rm : Room} {D : va_G} {cy : Nat → Nat} {av : List Value} {ws : va_W} {mc ms : Nat} {Qc : (Nat → Prop) → Array Value → State → Outcome → State → Prop} {cc : ByteArray} {maxL : Nat} {ret : Option FieldType}
    (hy : plainName y.cls = true) (hw : wd = Cond.code y cc maxL ret :: ws9) (hlen : (lg_sl av).length ≤ maxL)
    (body : ∀ (p : Program) (e : Env) (s : State) (m : MethodId) (args : Array Value) (below : List Frame) (meth : Method) (c : Code) (A : Nat → Prop) (ls : Array Slot),
      p.tables.exec = Jvm.exec → c.code = cc → meth.sig.returnType = ret → c.maxLocals = maxL → meth.locks = false → s.vm.findClass y.cls = some m.cls → (∀ w ∈ wd, w.before args s = true) → (∀ q, s.heap.size ≤ q → A q) →
      va_K D vwCl (tyl cy) s → cG cy A s s.heap → cX s → va_P D vwCl ws s.heap → va_D A ws → va_S A s.heap s.heap [] → lv_has ls maxL (lv_args 0 av) →
      W p l e rm s m args below meth c s.heap [] 0 0 (MQ below (Qc A) args s mc ms A) (F0 m 0 ls [])) : CH l y wd rm D cy av ws mc ms Qc := by
  intro sz
  refine Met.ofW (cc := cc) (maxL := maxL) (ret := ret) hy hw ?_
  intro p e s m args below meth c s₁ B hml hv
  obtain ⟨rfl, ⟨hsz, hP, hK, hD0, hN⟩, hX⟩ := hv
  subst hsz
  have hts := atoms_spec (ws := wd) B.pre
  have hl := lv_entry av (n := maxL) hlen
  rw [lg_entry_eq]
  exact body p e s m av.toArray below meth c (va_A ws s.heap.size) _ B.exec B.bytes B.returns hml B.notSynchronized (findClass_of_methodNamed B.named) hts (fun q h => Or.inr h) hK hN hX hP hD0.self va_S.rf hl
section RUNL
variable {p : Program} {l : Launch} {e : Env} {R : Room} {s : State} {m : MethodId} {args : Array Value} {below : List Frame} {meth : Method} {c : Code} {H : Heap} {locs : List Loc} {cells slots : Nat} {Q : State → Prop}
variable {y : MethodName} {bytes cc : ByteArray} {maxL nL mc ms n index : Nat} {ret : Option FieldType} {hh : List (Nat × Nat × Nat × Nat)} {wd : List Cond} {rm : Room} {Ts : List Cond} {own : String} {As rest st0 : List Value} {pc : Nat} {ls : Array Slot} {D : va_G} {cy : Nat → Nat} {A : Nat → Prop} {ws X wc wc' Y : va_W} {Qc : (Nat → Prop) → Array Value → State → Outcome → State → Prop}
/-- a call of a static method that has a table of handlers -/
theorem rH (S : CallFix p m c cc nL s args Ts own) (hM : CH l y wd rm D cy As wc mc ms Qc) (cw : vx_CSW R s args own index y bytes maxL ret hh wd rm mc ms n) (hK : va_K D vwCl (tyl cy) s) (hN : cG cy A s s.heap) (hX : cX s) (hP : va_P D vwCl ws H) (hD : va_D A ws) (hS : va_S A s.heap H locs) (hA : ∀ q, s.heap.size ≤ q → A q) (hws : ws = X ++ (wc ++ Y))
    (hn : As.length = n) (hsize : ls.size = nL) (hstack : st0 = As.reverse ++ rest) (hW : 2 * (F0 m pc ls st0).monitorRoom + (rest.map fun v => v.category).sum ≤ 8) (hdg : decode cc pc = .ok (.invokestatic index, 3)) (hf : cells + mc ≤ R.cells ∧ slots + ms ≤ R.slots) :
    va_Run p l e R s m args below meth c H locs cells slots mc ms (F0 m pc ls st0) rest (Qc (va_A wc H.size) As.toArray) (va_A wc H.size) := by
  subst hws
  have hPc : va_P D vwCl wc H := va_P_l (va_P_r hP)
  have hDc : va_D A wc := va_D_l (va_D_r hD)
  exact vx_runSW S (hM H.size) cw ⟨cPreL_blind D cy _ wc H.size, fun U hU hW => ⟨rfl, ⟨by rw [hU], by rw [hU]; exact hPc, va_K.moved hW.alike hK, hDc.weaken (fun _ _ _ _ => trivial), by rw [hU]; exact hN.call hS (aW_free hD hS hA) hW⟩, hX.warm hW⟩⟩ rfl hn hsize hstack hW hdg hf
/-- a call of a static method without handlers whose callees have some -/
theorem rHp (S : CallFix p m c cc nL s args Ts own) (hM : CH l y wd rm D cy As wc mc ms Qc) (cw : CallB R s args own index y bytes maxL ret wd rm mc ms n ∧ (Cond.static y).before args s = true) (hK : va_K D vwCl (tyl cy) s) (hN : cG cy A s s.heap) (hX : cX s) (hP : va_P D vwCl ws H) (hD : va_D A ws) (hS : va_S A s.heap H locs) (hA : ∀ q, s.heap.size ≤ q → A q) (hws : ws = X ++ (wc ++ Y))
    (hn : As.length = n) (hsize : ls.size = nL) (hstack : st0 = As.reverse ++ rest) (hW : 2 * (F0 m pc ls st0).monitorRoom + (rest.map fun v => v.category).sum ≤ 8) (hdg : decode cc pc = .ok (.invokestatic index, 3)) (hf : cells + mc ≤ R.cells ∧ slots + ms ≤ R.slots) :
    va_Run p l e R s m args below meth c H locs cells slots mc ms (F0 m pc ls st0) rest (Qc (va_A wc H.size) As.toArray) (va_A wc H.size) := by
  subst hws
  have hPc : va_P D vwCl wc H := va_P_l (va_P_r hP)
  have hDc : va_D A wc := va_D_l (va_D_r hD)
  exact va_runS S (hM H.size) cw ⟨cPreL_blind D cy _ wc H.size, fun U hU hW => ⟨rfl, ⟨by rw [hU], by rw [hU]; exact hPc, va_K.moved hW.alike hK, hDc.weaken (fun _ _ _ _ => trivial), by rw [hU]; exact hN.call hS (aW_free hD hS hA) hW⟩, hX.warm hW⟩⟩ rfl hn hsize hstack hW hdg hf
/-- what a call threw is caught: by the first handler, or by the second, or by the third -/
theorem kc {k : Nat} {q9 : Addr} {ce : Cell} (hown : s.vm.findClass own = some m.cls) {pre suf : List ExceptionTableEntry} (x : ExceptionTableEntry) (htab : c.exceptionTable.toList = pre ++ x :: suf) (hX : cX s) (k0 : 0 < k) (k4 : k < 4) (hpre : ∀ z ∈ pre, z.catchType ≠ 0 ∧ ∃ j, 0 < j ∧ j < 4 ∧ k ≠ j ∧ (Cond.classLink own z.catchType (exN j)).before args s = true) (hx : covers x pc = true) (h0 : x.catchType ≠ 0) (hlink : (Cond.classLink own x.catchType (exN k)).before args s = true) (hce : H[q9]? = some ce) (hcv : ce.vm = .none) (hcl : s.vm.findClass (exN k) = some ce.cls)
    (kk : W p l e R s m args below meth c H locs cells slots Q (F0 m x.handlerPc ls [.ref q9])) : vx_W p l e R s m args below meth c H locs cells slots Q (F0 m pc ls rest) q9 :=
  vx_catch hown pre x suf htab (fun z hz => by
    obtain ⟨h1, j, j0, j4, jk, h2⟩ := hpre z hz
    exact Or.inr ⟨h1, exN j, h2, hX.2 k j k0 k4 j0 j4 jk⟩) hx h0 hlink (va_Nw.use (A := args) rfl (hX.1 k k0 k4)) hce hcv hcl kk
end RUNL
abbrev LA (s : State) : Nat → Prop := fun q => s.heap.size ≤ q
theorem asm1 (a b c : va_W) : a ++ (b ++ c) = [] ++ ((a ++ (b ++ [])) ++ c) := by simp only [List.append_nil, List.nil_append, List.append_assoc]
theorem asm2 (a b c : va_W) : a ++ (b ++ c) = (a ++ b) ++ (c ++ []) := by simp only [List.append_nil, List.append_assoc]
theorem fst_L {a b : va_W} {q : Nat} (x y : va_E) (h : b.map (·.1) = a.map (·.1)) : (([(q, y)] ++ (b ++ []) : va_W)).map (·.1) = (([(q, x)] ++ (a ++ []) : va_W)).map (·.1) := by rw [List.map_append, List.map_append, List.map_append, List.map_append, h]; rfl
theorem lg_cmp_self (x : Int64) : lg_cmp x x = 0 := by
  unfold lg_cmp
  rw [if_neg (Int64.lt_irrefl), if_pos rfl]
section RUND
variable {p : Program} {l : Launch} {e : Env} {R : Room} {s : State} {m : MethodId} {args : Array Value} {below : List Frame} {meth : Method} {c : Code} {H : Heap} {locs : List Loc} {cells slots : Nat} {Q : State → Prop}
variable {mc ms : Nat} {rest st0 : List Value} {pc : Nat} {ls : Array Slot} {D : va_G} {cy : Nat → Nat} {A : Nat → Prop} {ws X wc wc' Y : va_W} {a : Array Value} {rd : UInt64}
/-- a call that answers a double -/
theorem kd (hr : va_Run p l e R s m args below meth c H locs cells slots mc ms (F0 m pc ls st0) rest (QD D cy rd wc' (va_A wc H.size) a) (va_A wc H.size)) (hP : va_P D vwCl ws H) (hD : va_D A ws) (hS : va_S A s.heap H locs) (hA : ∀ q, s.heap.size ≤ q → A q) (hws : ws = X ++ (wc ++ Y)) (hfst : wc'.map (·.1) = wc.map (·.1)) {ws1 : va_W} (hws1 : X ++ (wc' ++ Y) = ws1)
    (kk : ∀ (H1 : Heap) (locs1 : List Loc), va_P D vwCl ws1 H1 → va_D A ws1 → va_S A s.heap H1 locs1 → W p l e R s m args below meth c H1 locs1 (cells + mc) (slots + ms) Q (F0 m (pc + 3) ls (.double rd :: rest))) : W p l e R s m args below meth c H locs cells slots Q (F0 m pc ls st0) := by
  subst hws
  subst hws1
  have hF := aW_free hD hS hA
  refine va_calld hr hS (fun q _ h => hF q h) hF (fun x u t H1 locs1 ht hvm hw hB hz1 hk1 hS1 => ?_)
  obtain ⟨hP1, -, hD1⟩ := hB
  rw [ht] at hP1
  subst hw
  obtain ⟨g1, g2⟩ := fr1 hP hD hk1 hP1 hfst
  exact kk H1 locs1 g1 g2 hS1
end RUND
