/-- what ties the class's world to the reference's between two calls of the law -/
def LI (mT mP : Mem) (nP : MemL) (mS mB mO mR mA : Mem) (nA : MemL) (mH : Mem) (hs : Nat → PSt) (mM : Mem) (nM : MemL) : Prop := ∃ (v : VI) (c : Int) (H : Int → VI) (n : Int) (t : Int → Int), WF v c H ∧ RW mP nP mS mB mO mR mA nA v ∧ HR c H mH hs ∧ MS v c H mM nM ∧ TT n t mT ∧ TM n t mM
theorem TM_sm {n : Int} {t : Int → Int} {mM mM' : Mem} (h : TM n t mM) (e : SM mM mM') : TM n t mM' := by
  obtain ⟨a, b, d⟩ := h
  exact ⟨a, by rw [e 7 (by decide) (by decide) (by decide)]; exact b, fun k k0 k1 => by rw [e 4 (by decide) (by decide) (by decide)]; exact d k k0 k1⟩
theorem z_ex (x : Int32) : ∃ a : Int, -2147483648 ≤ a ∧ a < 2147483648 ∧ x = zI a := ⟨x.toInt, by have := Int32.le_toInt x; omega, by have := Int32.toInt_lt x; omega, z_of x⟩
theorem q_setting2 {v : VI} {c : Int} {H : Int → VI} {imT imdP : Mem} {indP : MemL} {imdS imdB imdO imdR imdA : Mem} {indA : MemL} {mP : Mem} {nP : MemL} {mS mB mO mR mA : Mem} {nA : MemL} {mH : Mem} {hs : Nat → PSt} {mM : Mem} {nM : MemL} (h : WF v c H) (R : RW mP nP mS mB mO mR mA nA v) (hM : MS v c H mM nM) {a : Int} (a0 : -2147483648 ≤ a) (a1 : a < 2147483648) :
    ∃ (k : Nat) (cd r : Int) (r0 : Int32), (k = 0 ∧ cd = 0 ∨ k = 1 ∧ cd = 1) ∧ f_X8_setting (zI a) imT imdP indP imdS imdB imdO imdR imdA indA mP nP mS mB mO mR mA nA mH hs = some (k, r0) ∧ (k = 0 → r0 = zI r) ∧ Ev (f_X9_setting (zI a) mM nM) (QO cd r k mM) := by
  obtain ⟨wr, w0, w1, R⟩ := R
  obtain ⟨sv, tv, hMR, -⟩ := (hM.w8 (fun _ => zI 0)).2
  have e1 := s_within (a := a) (b := 0) (c := 7) a0 a1 (by omega) (by omega) (by omega) (by omega)
  have f1 := m_in (a := a) (b := 0) (c := 7) (by omega) (by omega) (by omega) (by omega) (by omega) (by omega)
  by_cases c1 : 0 ≤ a ∧ a ≤ 7
  · rw [if_pos c1] at e1 f1
    have e3 := s_valueIn (a := a) R.1.1 (by decide) (by omega) (by show a < (8 : Int); omega)
    simp (disch := omega) only [f_X8_setting, f_X9_setting, z_c0, z_c1, z_c7, y_c0_, y_c7_, z_add, z_sub, z_neg, y_neg, z_mul, z_div, z_l, y_i, y_add, y_sub, y_mul, y_div, z_lt, z_le, z_eq, y_c1, y_c2, y_c3, y_c4, y_c5, z_gi, bd1_s, bd2_s, mul30, z_ofNat, e1, f1, e3, nIq_1, hMR.rd, Int.zero_add, eq_self, if_true, if_false, lt_eq, iz1, nz1, nz2, nz3, il0, il1, il2, il3, Int.reduceEq, Int.reduceLE, Int.reduceAdd]
    exact ⟨0, 0, _, _, Or.inl ⟨rfl, rfl⟩, rfl, fun _ => rfl, Ev_some (q_ok mM _)⟩
  · rw [if_neg c1] at e1 f1
    simp (disch := omega) only [f_X8_setting, f_X9_setting, z_c0, z_c1, z_c7, y_c0_, y_c7_, z_add, z_sub, z_neg, y_neg, z_mul, z_div, z_l, y_i, y_add, y_sub, y_mul, y_div, z_lt, z_le, z_eq, y_c1, y_c2, y_c3, y_c4, y_c5, z_gi, bd1_s, bd2_s, mul30, z_ofNat, e1, f1, nIq_0, eq_self, if_true, if_false, lt_eq, iz1, nz1, nz2, nz3, il0, il1, il2, il3, Int.reduceEq, Int.reduceLE, Int.reduceAdd]
    exact ⟨1, 1, 0, _, Or.inr ⟨rfl, rfl⟩, rfl, fun q => absurd q (by decide), q_fail (by decide) _⟩
theorem g_addSilo {mT : Mem} {mP : Mem} {nP : MemL} {mS : Mem} {mB : Mem} {mO : Mem} {mR : Mem} {mA : Mem} {nA : MemL} {mH : Mem} {hs : (Nat → PSt)} {mM : Mem} {nM : MemL} {imdP : Mem} {indP : MemL} {imdS : Mem} {imdB : Mem} {imdO : Mem} {imdR : Mem} {imdA : Mem} {indA : MemL} (hI : LI mT mP nP mS mB mO mR mA nA mH hs mM nM) (x1 x2 x3 : Int32) : ∃ (k' : Nat) (r' rM : Int32) (cd : Int32) (mS' : Mem) (mH' : Mem) (hs' : (Nat → PSt)) (mM' : Mem) (nM' : MemL), (k' = 0 ∧ cd = 0 ∨ k' = 2 ∧ cd = 1 ∨ k' = 3 ∧ cd = 2) ∧ f_X8_addSilo x1 x2 x3 mT imdP indP imdS imdB imdO imdR imdA indA mP nP mS mB mO mR mA nA mH hs = some (k', r', mS', mH', hs') ∧ f_X9_addSilo x1 x2 x3 mM nM = some (rM, mM', nM') ∧ mM' 8 0 = cd ∧ (k' = 0 → r' = rM) ∧ LI mT mP nP mS' mB mO mR mA nA mH' hs' mM' nM' := by
  obtain ⟨v, c, H, n, t, h, R, hH, hM, hT, hm⟩ := hI
  obtain ⟨a, a0, a1, ea⟩ := z_ex x1
  subst ea
  obtain ⟨x, x0, x1, ex⟩ := z_ex x2
  subst ex
  obtain ⟨y, y0, y1, ey⟩ := z_ex x3
  subst ey
  obtain ⟨k, cd, r, v2, c2, H2, h2, hk, e8, e9⟩ := p_addSilo (imT := mT) (imdP := imdP) (indP := indP) (imdS := imdS) (imdB := imdB) (imdO := imdO) (imdR := imdR) (imdA := imdA) (indA := indA) (mP := mP) (nP := nP) (mS := mS) (mB := mB) (mO := mO) (mR := mR) (mA := mA) (nA := nA) (mH := mH) (hs := hs) (mM := mM) (nM := nM) h R hH hM a0 a1 x0 x1 y0 y1
  obtain ⟨⟨k0, r0, mS', mH', hs'⟩, e8, q1, q2, q3, q4⟩ := e8
  obtain ⟨⟨r9, mM', nM'⟩, e9, s1, s2, s3, s4⟩ := e9
  dsimp only at q1 q2 q3 q4 s1 s2 s3 s4
  subst q1
  refine ⟨k0, r0, r9, zI cd, mS', mH', hs', mM', nM', ?_, e8, e9, s1, fun h0 => (q2 h0).trans (s2 h0).symm, v2, c2, H2, n, t, h2, q3, q4, s4, hT, TM_sm hm s3⟩
  rcases hk with ⟨rfl, rfl⟩ | ⟨rfl, rfl⟩ | ⟨rfl, rfl⟩ <;> decide
theorem g_setRule {mT : Mem} {mP : Mem} {nP : MemL} {mS : Mem} {mB : Mem} {mO : Mem} {mR : Mem} {mA : Mem} {nA : MemL} {mH : Mem} {hs : (Nat → PSt)} {mM : Mem} {nM : MemL} {imdP : Mem} {indP : MemL} {imdS : Mem} {imdB : Mem} {imdO : Mem} {imdR : Mem} {imdA : Mem} {indA : MemL} (hI : LI mT mP nP mS mB mO mR mA nA mH hs mM nM) (x1 x2 : Int32) : ∃ (k' : Nat) (r' rM : Int32) (cd : Int32) (mS' : Mem) (mH' : Mem) (hs' : (Nat → PSt)) (mM' : Mem) (nM' : MemL), (k' = 0 ∧ cd = 0 ∨ k' = 1 ∧ cd = 1 ∨ k' = 2 ∧ cd = 2) ∧ f_X8_setRule x1 x2 mT imdP indP imdS imdB imdO imdR imdA indA mP nP mS mB mO mR mA nA mH hs = some (k', r', mS', mH', hs') ∧ f_X9_setRule x1 x2 mM nM = some (rM, mM', nM') ∧ mM' 8 0 = cd ∧ (k' = 0 → r' = rM) ∧ LI mT mP nP mS' mB mO mR mA nA mH' hs' mM' nM' := by
  obtain ⟨v, c, H, n, t, h, R, hH, hM, hT, hm⟩ := hI
  obtain ⟨a, a0, a1, ea⟩ := z_ex x1
  subst ea
  obtain ⟨x, x0, x1, ex⟩ := z_ex x2
  subst ex
  obtain ⟨k, cd, r, v2, c2, H2, h2, hk, e8, e9⟩ := p_setRule (imT := mT) (imdP := imdP) (indP := indP) (imdS := imdS) (imdB := imdB) (imdO := imdO) (imdR := imdR) (imdA := imdA) (indA := indA) (mP := mP) (nP := nP) (mS := mS) (mB := mB) (mO := mO) (mR := mR) (mA := mA) (nA := nA) (mH := mH) (hs := hs) (mM := mM) (nM := nM) h R hH hM a0 a1 x0 x1
  obtain ⟨⟨k0, r0, mS', mH', hs'⟩, e8, q1, q2, q3, q4⟩ := e8
  obtain ⟨⟨r9, mM', nM'⟩, e9, s1, s2, s3, s4⟩ := e9
  dsimp only at q1 q2 q3 q4 s1 s2 s3 s4
  subst q1
  refine ⟨k0, r0, r9, zI cd, mS', mH', hs', mM', nM', ?_, e8, e9, s1, fun h0 => (q2 h0).trans (s2 h0).symm, v2, c2, H2, n, t, h2, q3, q4, s4, hT, TM_sm hm s3⟩
  rcases hk with ⟨rfl, rfl⟩ | ⟨rfl, rfl⟩ | ⟨rfl, rfl⟩ <;> decide
theorem g_setStrength {mT : Mem} {mP : Mem} {nP : MemL} {mS : Mem} {mB : Mem} {mO : Mem} {mR : Mem} {mA : Mem} {nA : MemL} {mH : Mem} {hs : (Nat → PSt)} {mM : Mem} {nM : MemL} {imdP : Mem} {indP : MemL} {imdS : Mem} {imdB : Mem} {imdO : Mem} {imdR : Mem} {imdA : Mem} {indA : MemL} (hI : LI mT mP nP mS mB mO mR mA nA mH hs mM nM) (x1 x2 : Int32) : ∃ (k' : Nat) (r' rM : Int32) (cd : Int32) (mS' : Mem) (mH' : Mem) (hs' : (Nat → PSt)) (mM' : Mem) (nM' : MemL), (k' = 0 ∧ cd = 0 ∨ k' = 1 ∧ cd = 1 ∨ k' = 2 ∧ cd = 2) ∧ f_X8_setStrength x1 x2 mT imdP indP imdS imdB imdO imdR imdA indA mP nP mS mB mO mR mA nA mH hs = some (k', r', mS', mH', hs') ∧ f_X9_setStrength x1 x2 mM nM = some (rM, mM', nM') ∧ mM' 8 0 = cd ∧ (k' = 0 → r' = rM) ∧ LI mT mP nP mS' mB mO mR mA nA mH' hs' mM' nM' := by
  obtain ⟨v, c, H, n, t, h, R, hH, hM, hT, hm⟩ := hI
  obtain ⟨a, a0, a1, ea⟩ := z_ex x1
  subst ea
  obtain ⟨x, x0, x1, ex⟩ := z_ex x2
  subst ex
  obtain ⟨k, cd, r, v2, c2, H2, h2, hk, e8, e9⟩ := p_setStrength (imT := mT) (imdP := imdP) (indP := indP) (imdS := imdS) (imdB := imdB) (imdO := imdO) (imdR := imdR) (imdA := imdA) (indA := indA) (mP := mP) (nP := nP) (mS := mS) (mB := mB) (mO := mO) (mR := mR) (mA := mA) (nA := nA) (mH := mH) (hs := hs) (mM := mM) (nM := nM) h R hH hM a0 a1 x0 x1
  obtain ⟨⟨k0, r0, mS', mH', hs'⟩, e8, q1, q2, q3, q4⟩ := e8
  obtain ⟨⟨r9, mM', nM'⟩, e9, s1, s2, s3, s4⟩ := e9
  dsimp only at q1 q2 q3 q4 s1 s2 s3 s4
  subst q1
  refine ⟨k0, r0, r9, zI cd, mS', mH', hs', mM', nM', ?_, e8, e9, s1, fun h0 => (q2 h0).trans (s2 h0).symm, v2, c2, H2, n, t, h2, q3, q4, s4, hT, TM_sm hm s3⟩
  rcases hk with ⟨rfl, rfl⟩ | ⟨rfl, rfl⟩ | ⟨rfl, rfl⟩ <;> decide
theorem g_setTemperature {mT : Mem} {mP : Mem} {nP : MemL} {mS : Mem} {mB : Mem} {mO : Mem} {mR : Mem} {mA : Mem} {nA : MemL} {mH : Mem} {hs : (Nat → PSt)} {mM : Mem} {nM : MemL} {imdP : Mem} {indP : MemL} {imdS : Mem} {imdB : Mem} {imdO : Mem} {imdR : Mem} {imdA : Mem} {indA : MemL} (hI : LI mT mP nP mS mB mO mR mA nA mH hs mM nM) (x1 x2 : Int32) : ∃ (k' : Nat) (r' rM : Int32) (cd : Int32) (mP' : Mem) (mH' : Mem) (hs' : (Nat → PSt)) (mM' : Mem) (nM' : MemL), (k' = 0 ∧ cd = 0 ∨ k' = 1 ∧ cd = 1 ∨ k' = 2 ∧ cd = 2) ∧ f_X8_setTemperature x1 x2 mT imdP indP imdS imdB imdO imdR imdA indA mP nP mS mB mO mR mA nA mH hs = some (k', r', mP', mH', hs') ∧ f_X9_setTemperature x1 x2 mM nM = some (rM, mM', nM') ∧ mM' 8 0 = cd ∧ (k' = 0 → r' = rM) ∧ LI mT mP' nP mS mB mO mR mA nA mH' hs' mM' nM' := by
  obtain ⟨v, c, H, n, t, h, R, hH, hM, hT, hm⟩ := hI
  obtain ⟨a, a0, a1, ea⟩ := z_ex x1
  subst ea
  obtain ⟨x, x0, x1, ex⟩ := z_ex x2
  subst ex
  obtain ⟨k, cd, r, v2, c2, H2, h2, hk, e8, e9⟩ := p_setTemperature (imT := mT) (imdP := imdP) (indP := indP) (imdS := imdS) (imdB := imdB) (imdO := imdO) (imdR := imdR) (imdA := imdA) (indA := indA) (mP := mP) (nP := nP) (mS := mS) (mB := mB) (mO := mO) (mR := mR) (mA := mA) (nA := nA) (mH := mH) (hs := hs) (mM := mM) (nM := nM) h R hH hM a0 a1 x0 x1
  obtain ⟨⟨k0, r0, mP', mH', hs'⟩, e8, q1, q2, q3, q4⟩ := e8
  obtain ⟨⟨r9, mM', nM'⟩, e9, s1, s2, s3, s4⟩ := e9
  dsimp only at q1 q2 q3 q4 s1 s2 s3 s4
  subst q1
  refine ⟨k0, r0, r9, zI cd, mP', mH', hs', mM', nM', ?_, e8, e9, s1, fun h0 => (q2 h0).trans (s2 h0).symm, v2, c2, H2, n, t, h2, q3, q4, s4, hT, TM_sm hm s3⟩
  rcases hk with ⟨rfl, rfl⟩ | ⟨rfl, rfl⟩ | ⟨rfl, rfl⟩ <;> decide
theorem g_set {mT : Mem} {mP : Mem} {nP : MemL} {mS : Mem} {mB : Mem} {mO : Mem} {mR : Mem} {mA : Mem} {nA : MemL} {mH : Mem} {hs : (Nat → PSt)} {mM : Mem} {nM : MemL} {imdP : Mem} {indP : MemL} {imdS : Mem} {imdB : Mem} {imdO : Mem} {imdR : Mem} {imdA : Mem} {indA : MemL} (hI : LI mT mP nP mS mB mO mR mA nA mH hs mM nM) (x1 x2 : Int32) : ∃ (k' : Nat) (r' rM : Int32) (cd : Int32) (mP' : Mem) (mH' : Mem) (hs' : (Nat → PSt)) (mM' : Mem) (nM' : MemL), (k' = 0 ∧ cd = 0 ∨ k' = 1 ∧ cd = 1 ∨ k' = 2 ∧ cd = 2) ∧ f_X8_set x1 x2 mT imdP indP imdS imdB imdO imdR imdA indA mP nP mS mB mO mR mA nA mH hs = some (k', r', mP', mH', hs') ∧ f_X9_set x1 x2 mM nM = some (rM, mM', nM') ∧ mM' 8 0 = cd ∧ (k' = 0 → r' = rM) ∧ LI mT mP' nP mS mB mO mR mA nA mH' hs' mM' nM' := by
  obtain ⟨v, c, H, n, t, h, R, hH, hM, hT, hm⟩ := hI
  obtain ⟨a, a0, a1, ea⟩ := z_ex x1
  subst ea
  obtain ⟨x, x0, x1, ex⟩ := z_ex x2
  subst ex
  obtain ⟨k, cd, r, v2, c2, H2, h2, hk, e8, e9⟩ := p_set (imT := mT) (imdP := imdP) (indP := indP) (imdS := imdS) (imdB := imdB) (imdO := imdO) (imdR := imdR) (imdA := imdA) (indA := indA) (mP := mP) (nP := nP) (mS := mS) (mB := mB) (mO := mO) (mR := mR) (mA := mA) (nA := nA) (mH := mH) (hs := hs) (mM := mM) (nM := nM) h R hH hM a0 a1 x0 x1
  obtain ⟨⟨k0, r0, mP', mH', hs'⟩, e8, q1, q2, q3, q4⟩ := e8
  obtain ⟨⟨r9, mM', nM'⟩, e9, s1, s2, s3, s4⟩ := e9
  dsimp only at q1 q2 q3 q4 s1 s2 s3 s4
  subst q1
  refine ⟨k0, r0, r9, zI cd, mP', mH', hs', mM', nM', ?_, e8, e9, s1, fun h0 => (q2 h0).trans (s2 h0).symm, v2, c2, H2, n, t, h2, q3, q4, s4, hT, TM_sm hm s3⟩
  rcases hk with ⟨rfl, rfl⟩ | ⟨rfl, rfl⟩ | ⟨rfl, rfl⟩ <;> decide
theorem g_move {mT : Mem} {mP : Mem} {nP : MemL} {mS : Mem} {mB : Mem} {mO : Mem} {mR : Mem} {mA : Mem} {nA : MemL} {mH : Mem} {hs : (Nat → PSt)} {mM : Mem} {nM : MemL} {imdP : Mem} {indP : MemL} {imdS : Mem} {imdB : Mem} {imdO : Mem} {imdR : Mem} {imdA : Mem} {indA : MemL} (hI : LI mT mP nP mS mB mO mR mA nA mH hs mM nM) (x1 x2 : Int32) : ∃ (k' : Nat) (r' rM : Int32) (cd : Int32) (mS' : Mem) (mH' : Mem) (hs' : (Nat → PSt)) (mM' : Mem) (nM' : MemL), (k' = 0 ∧ cd = 0 ∨ k' = 1 ∧ cd = 1 ∨ k' = 2 ∧ cd = 2 ∨ k' = 3 ∧ cd = 3) ∧ f_X8_move x1 x2 mT imdP indP imdS imdB imdO imdR imdA indA mP nP mS mB mO mR mA nA mH hs = some (k', r', mS', mH', hs') ∧ f_X9_move x1 x2 mM nM = some (rM, mM', nM') ∧ mM' 8 0 = cd ∧ (k' = 0 → r' = rM) ∧ LI mT mP nP mS' mB mO mR mA nA mH' hs' mM' nM' := by
  obtain ⟨v, c, H, n, t, h, R, hH, hM, hT, hm⟩ := hI
  obtain ⟨a, a0, a1, ea⟩ := z_ex x1
  subst ea
  obtain ⟨x, x0, x1, ex⟩ := z_ex x2
  subst ex
  obtain ⟨k, cd, r, v2, c2, H2, h2, hk, e8, e9⟩ := p_move (imT := mT) (imdP := imdP) (indP := indP) (imdS := imdS) (imdB := imdB) (imdO := imdO) (imdR := imdR) (imdA := imdA) (indA := indA) (mP := mP) (nP := nP) (mS := mS) (mB := mB) (mO := mO) (mR := mR) (mA := mA) (nA := nA) (mH := mH) (hs := hs) (mM := mM) (nM := nM) h R hH hM a0 a1 x0 x1
  obtain ⟨⟨k0, r0, mS', mH', hs'⟩, e8, q1, q2, q3, q4⟩ := e8
  obtain ⟨⟨r9, mM', nM'⟩, e9, s1, s2, s3, s4⟩ := e9
  dsimp only at q1 q2 q3 q4 s1 s2 s3 s4
  subst q1
  refine ⟨k0, r0, r9, zI cd, mS', mH', hs', mM', nM', ?_, e8, e9, s1, fun h0 => (q2 h0).trans (s2 h0).symm, v2, c2, H2, n, t, h2, q3, q4, s4, hT, TM_sm hm s3⟩
  rcases hk with ⟨rfl, rfl⟩ | ⟨rfl, rfl⟩ | ⟨rfl, rfl⟩ | ⟨rfl, rfl⟩ <;> decide
theorem g_pass {mT : Mem} {mP : Mem} {nP : MemL} {mS : Mem} {mB : Mem} {mO : Mem} {mR : Mem} {mA : Mem} {nA : MemL} {mH : Mem} {hs : (Nat → PSt)} {mM : Mem} {nM : MemL} {imdP : Mem} {indP : MemL} {imdS : Mem} {imdB : Mem} {imdO : Mem} {imdR : Mem} {imdA : Mem} {indA : MemL} (hI : LI mT mP nP mS mB mO mR mA nA mH hs mM nM) (x1 : Int32) : ∃ (k' : Nat) (r' rM : Int32) (cd : Int32) (mP' : Mem) (nP' : MemL) (mS' : Mem) (mB' : Mem) (mO' : Mem) (mR' : Mem) (mA' : Mem) (nA' : MemL) (mH' : Mem) (hs' : (Nat → PSt)) (mM' : Mem) (nM' : MemL), (k' = 0 ∧ cd = 0 ∨ k' = 2 ∧ cd = 1 ∨ k' = 3 ∧ cd = 2) ∧ f_X8_pass x1 mT imdP indP imdS imdB imdO imdR imdA indA mP nP mS mB mO mR mA nA mH hs = some (k', r', mP', nP', mS', mB', mO', mR', mA', nA', mH', hs') ∧ f_X9_pass x1 mM nM = some (rM, mM', nM') ∧ mM' 8 0 = cd ∧ (k' = 0 → r' = rM) ∧ LI mT mP' nP' mS' mB' mO' mR' mA' nA' mH' hs' mM' nM' := by
  obtain ⟨v, c, H, n, t, h, R, hH, hM, hT, hm⟩ := hI
  obtain ⟨a, a0, a1, ea⟩ := z_ex x1
  subst ea
  obtain ⟨k, cd, r, v2, c2, H2, h2, hk, e8, e9⟩ := p_pass (imT := mT) (imdP := imdP) (indP := indP) (imdS := imdS) (imdB := imdB) (imdO := imdO) (imdR := imdR) (imdA := imdA) (indA := indA) (mP := mP) (nP := nP) (mS := mS) (mB := mB) (mO := mO) (mR := mR) (mA := mA) (nA := nA) (mH := mH) (hs := hs) (mM := mM) (nM := nM) h R hH hM a0 a1
  obtain ⟨⟨k0, r0, mP', nP', mS', mB', mO', mR', mA', nA', mH', hs'⟩, e8, q1, q2, q3, q4⟩ := e8
  obtain ⟨⟨r9, mM', nM'⟩, e9, s1, s2, s3, s4⟩ := e9
  dsimp only at q1 q2 q3 q4 s1 s2 s3 s4
  subst q1
  refine ⟨k0, r0, r9, zI cd, mP', nP', mS', mB', mO', mR', mA', nA', mH', hs', mM', nM', ?_, e8, e9, s1, fun h0 => (q2 h0).trans (s2 h0).symm, v2, c2, H2, n, t, h2, q3, q4, s4, hT, TM_sm hm s3⟩
  rcases hk with ⟨rfl, rfl⟩ | ⟨rfl, rfl⟩ | ⟨rfl, rfl⟩ <;> decide
theorem g_addBoat {mT : Mem} {mP : Mem} {nP : MemL} {mS : Mem} {mB : Mem} {mO : Mem} {mR : Mem} {mA : Mem} {nA : MemL} {mH : Mem} {hs : (Nat → PSt)} {mM : Mem} {nM : MemL} {imdP : Mem} {indP : MemL} {imdS : Mem} {imdB : Mem} {imdO : Mem} {imdR : Mem} {imdA : Mem} {indA : MemL} (hI : LI mT mP nP mS mB mO mR mA nA mH hs mM nM) (x1 : Int32) : ∃ (k' : Nat) (r' rM : Int32) (cd : Int32) (mB' : Mem) (mH' : Mem) (hs' : (Nat → PSt)) (mM' : Mem) (nM' : MemL), (k' = 0 ∧ cd = 0 ∨ k' = 2 ∧ cd = 1 ∨ k' = 3 ∧ cd = 2) ∧ f_X8_addBoat x1 mT imdP indP imdS imdB imdO imdR imdA indA mP nP mS mB mO mR mA nA mH hs = some (k', r', mB', mH', hs') ∧ f_X9_addBoat x1 mM nM = some (rM, mM', nM') ∧ mM' 8 0 = cd ∧ (k' = 0 → r' = rM) ∧ LI mT mP nP mS mB' mO mR mA nA mH' hs' mM' nM' := by
  obtain ⟨v, c, H, n, t, h, R, hH, hM, hT, hm⟩ := hI
  obtain ⟨a, a0, a1, ea⟩ := z_ex x1
  subst ea
  obtain ⟨k, cd, r, v2, c2, H2, h2, hk, e8, e9⟩ := p_addBoat (imT := mT) (imdP := imdP) (indP := indP) (imdS := imdS) (imdB := imdB) (imdO := imdO) (imdR := imdR) (imdA := imdA) (indA := indA) (mP := mP) (nP := nP) (mS := mS) (mB := mB) (mO := mO) (mR := mR) (mA := mA) (nA := nA) (mH := mH) (hs := hs) (mM := mM) (nM := nM) h R hH hM a0 a1
  obtain ⟨⟨k0, r0, mB', mH', hs'⟩, e8, q1, q2, q3, q4⟩ := e8
  obtain ⟨⟨r9, mM', nM'⟩, e9, s1, s2, s3, s4⟩ := e9
  dsimp only at q1 q2 q3 q4 s1 s2 s3 s4
  subst q1
  refine ⟨k0, r0, r9, zI cd, mB', mH', hs', mM', nM', ?_, e8, e9, s1, fun h0 => (q2 h0).trans (s2 h0).symm, v2, c2, H2, n, t, h2, q3, q4, s4, hT, TM_sm hm s3⟩
  rcases hk with ⟨rfl, rfl⟩ | ⟨rfl, rfl⟩ | ⟨rfl, rfl⟩ <;> decide
theorem g_setCatch {mT : Mem} {mP : Mem} {nP : MemL} {mS : Mem} {mB : Mem} {mO : Mem} {mR : Mem} {mA : Mem} {nA : MemL} {mH : Mem} {hs : (Nat → PSt)} {mM : Mem} {nM : MemL} {imdP : Mem} {indP : MemL} {imdS : Mem} {imdB : Mem} {imdO : Mem} {imdR : Mem} {imdA : Mem} {indA : MemL} (hI : LI mT mP nP mS mB mO mR mA nA mH hs mM nM) (x1 x2 : Int32) : ∃ (k' : Nat) (r' rM : Int32) (cd : Int32) (mB' : Mem) (mH' : Mem) (hs' : (Nat → PSt)) (mM' : Mem) (nM' : MemL), (k' = 0 ∧ cd = 0 ∨ k' = 1 ∧ cd = 1 ∨ k' = 2 ∧ cd = 2) ∧ f_X8_setCatch x1 x2 mT imdP indP imdS imdB imdO imdR imdA indA mP nP mS mB mO mR mA nA mH hs = some (k', r', mB', mH', hs') ∧ f_X9_setCatch x1 x2 mM nM = some (rM, mM', nM') ∧ mM' 8 0 = cd ∧ (k' = 0 → r' = rM) ∧ LI mT mP nP mS mB' mO mR mA nA mH' hs' mM' nM' := by
  obtain ⟨v, c, H, n, t, h, R, hH, hM, hT, hm⟩ := hI
  obtain ⟨a, a0, a1, ea⟩ := z_ex x1
  subst ea
  obtain ⟨x, x0, x1, ex⟩ := z_ex x2
  subst ex
  obtain ⟨k, cd, r, v2, c2, H2, h2, hk, e8, e9⟩ := p_setCatch (imT := mT) (imdP := imdP) (indP := indP) (imdS := imdS) (imdB := imdB) (imdO := imdO) (imdR := imdR) (imdA := imdA) (indA := indA) (mP := mP) (nP := nP) (mS := mS) (mB := mB) (mO := mO) (mR := mR) (mA := mA) (nA := nA) (mH := mH) (hs := hs) (mM := mM) (nM := nM) h R hH hM a0 a1 x0 x1
  obtain ⟨⟨k0, r0, mB', mH', hs'⟩, e8, q1, q2, q3, q4⟩ := e8
  obtain ⟨⟨r9, mM', nM'⟩, e9, s1, s2, s3, s4⟩ := e9
  dsimp only at q1 q2 q3 q4 s1 s2 s3 s4
  subst q1
  refine ⟨k0, r0, r9, zI cd, mB', mH', hs', mM', nM', ?_, e8, e9, s1, fun h0 => (q2 h0).trans (s2 h0).symm, v2, c2, H2, n, t, h2, q3, q4, s4, hT, TM_sm hm s3⟩
  rcases hk with ⟨rfl, rfl⟩ | ⟨rfl, rfl⟩ | ⟨rfl, rfl⟩ <;> decide
theorem g_order {mT : Mem} {mP : Mem} {nP : MemL} {mS : Mem} {mB : Mem} {mO : Mem} {mR : Mem} {mA : Mem} {nA : MemL} {mH : Mem} {hs : (Nat → PSt)} {mM : Mem} {nM : MemL} {imdP : Mem} {indP : MemL} {imdS : Mem} {imdB : Mem} {imdO : Mem} {imdR : Mem} {imdA : Mem} {indA : MemL} (hI : LI mT mP nP mS mB mO mR mA nA mH hs mM nM) (x1 x2 x3 x4 : Int32) (hu : x4 = 0 ∨ x4 = 1) : ∃ (k' : Nat) (r' rM : Int32) (cd : Int32) (mO' : Mem) (mH' : Mem) (hs' : (Nat → PSt)) (mM' : Mem) (nM' : MemL), (k' = 0 ∧ cd = 0 ∨ k' = 1 ∧ cd = 1 ∨ k' = 2 ∧ cd = 2 ∨ k' = 3 ∧ cd = 3) ∧ f_X8_order x1 x2 x3 x4 mT imdP indP imdS imdB imdO imdR imdA indA mP nP mS mB mO mR mA nA mH hs = some (k', r', mO', mH', hs') ∧ f_X9_order x1 x2 x3 x4 mM nM = some (rM, mM', nM') ∧ mM' 8 0 = cd ∧ (k' = 0 → r' = rM) ∧ LI mT mP nP mS mB mO' mR mA nA mH' hs' mM' nM' := by
  obtain ⟨v, c, H, n, t, h, R, hH, hM, hT, hm⟩ := hI
  obtain ⟨a, a0, a1, ea⟩ := z_ex x1
  subst ea
  obtain ⟨x, x0, x1, ex⟩ := z_ex x2
  subst ex
  obtain ⟨y, y0, y1, ey⟩ := z_ex x3
  subst ey
  obtain ⟨u, eu, hu9⟩ : ∃ u : Int, x4 = zI u ∧ (u = 0 ∨ u = 1) := by
    rcases hu with rfl | rfl
    · exact ⟨0, rfl, Or.inl rfl⟩
    · exact ⟨1, rfl, Or.inr rfl⟩
  subst eu
  obtain ⟨k, cd, r, v2, c2, H2, h2, hk, e8, e9⟩ := p_order (imT := mT) (imdP := imdP) (indP := indP) (imdS := imdS) (imdB := imdB) (imdO := imdO) (imdR := imdR) (imdA := imdA) (indA := indA) (mP := mP) (nP := nP) (mS := mS) (mB := mB) (mO := mO) (mR := mR) (mA := mA) (nA := nA) (mH := mH) (hs := hs) (mM := mM) (nM := nM) h R hH hM a0 a1 x0 x1 y0 y1 hu9
  obtain ⟨⟨k0, r0, mO', mH', hs'⟩, e8, q1, q2, q3, q4⟩ := e8
  obtain ⟨⟨r9, mM', nM'⟩, e9, s1, s2, s3, s4⟩ := e9
  dsimp only at q1 q2 q3 q4 s1 s2 s3 s4
  subst q1
  refine ⟨k0, r0, r9, zI cd, mO', mH', hs', mM', nM', ?_, e8, e9, s1, fun h0 => (q2 h0).trans (s2 h0).symm, v2, c2, H2, n, t, h2, q3, q4, s4, hT, TM_sm hm s3⟩
  rcases hk with ⟨rfl, rfl⟩ | ⟨rfl, rfl⟩ | ⟨rfl, rfl⟩ | ⟨rfl, rfl⟩ <;> decide
theorem g_cancel {mT : Mem} {mP : Mem} {nP : MemL} {mS : Mem} {mB : Mem} {mO : Mem} {mR : Mem} {mA : Mem} {nA : MemL} {mH : Mem} {hs : (Nat → PSt)} {mM : Mem} {nM : MemL} {imdP : Mem} {indP : MemL} {imdS : Mem} {imdB : Mem} {imdO : Mem} {imdR : Mem} {imdA : Mem} {indA : MemL} (hI : LI mT mP nP mS mB mO mR mA nA mH hs mM nM) (x1 : Int32) : ∃ (k' : Nat) (r' rM : Int32) (cd : Int32) (mO' : Mem) (mH' : Mem) (hs' : (Nat → PSt)) (mM' : Mem) (nM' : MemL), (k' = 0 ∧ cd = 0 ∨ k' = 1 ∧ cd = 1 ∨ k' = 3 ∧ cd = 2) ∧ f_X8_cancel x1 mT imdP indP imdS imdB imdO imdR imdA indA mP nP mS mB mO mR mA nA mH hs = some (k', r', mO', mH', hs') ∧ f_X9_cancel x1 mM nM = some (rM, mM', nM') ∧ mM' 8 0 = cd ∧ (k' = 0 → r' = rM) ∧ LI mT mP nP mS mB mO' mR mA nA mH' hs' mM' nM' := by
  obtain ⟨v, c, H, n, t, h, R, hH, hM, hT, hm⟩ := hI
  obtain ⟨a, a0, a1, ea⟩ := z_ex x1
  subst ea
  obtain ⟨k, cd, r, v2, c2, H2, h2, hk, e8, e9⟩ := p_cancel (imT := mT) (imdP := imdP) (indP := indP) (imdS := imdS) (imdB := imdB) (imdO := imdO) (imdR := imdR) (imdA := imdA) (indA := indA) (mP := mP) (nP := nP) (mS := mS) (mB := mB) (mO := mO) (mR := mR) (mA := mA) (nA := nA) (mH := mH) (hs := hs) (mM := mM) (nM := nM) h R hH hM a0 a1
  obtain ⟨⟨k0, r0, mO', mH', hs'⟩, e8, q1, q2, q3, q4⟩ := e8
  obtain ⟨⟨r9, mM', nM'⟩, e9, s1, s2, s3, s4⟩ := e9
  dsimp only at q1 q2 q3 q4 s1 s2 s3 s4
  subst q1
  refine ⟨k0, r0, r9, zI cd, mO', mH', hs', mM', nM', ?_, e8, e9, s1, fun h0 => (q2 h0).trans (s2 h0).symm, v2, c2, H2, n, t, h2, q3, q4, s4, hT, TM_sm hm s3⟩
  rcases hk with ⟨rfl, rfl⟩ | ⟨rfl, rfl⟩ | ⟨rfl, rfl⟩ <;> decide
theorem g_pay {mT : Mem} {mP : Mem} {nP : MemL} {mS : Mem} {mB : Mem} {mO : Mem} {mR : Mem} {mA : Mem} {nA : MemL} {mH : Mem} {hs : (Nat → PSt)} {mM : Mem} {nM : MemL} {imdP : Mem} {indP : MemL} {imdS : Mem} {imdB : Mem} {imdO : Mem} {imdR : Mem} {imdA : Mem} {indA : MemL} (hI : LI mT mP nP mS mB mO mR mA nA mH hs mM nM) (x1 x2 : Int32) : ∃ (k' : Nat) (r' rM : Int32) (cd : Int32) (nP' : MemL) (mB' : Mem) (mH' : Mem) (hs' : (Nat → PSt)) (mM' : Mem) (nM' : MemL), (k' = 0 ∧ cd = 0 ∨ k' = 1 ∧ cd = 1 ∨ k' = 2 ∧ cd = 2 ∨ k' = 3 ∧ cd = 3) ∧ f_X8_pay x1 x2 mT imdP indP imdS imdB imdO imdR imdA indA mP nP mS mB mO mR mA nA mH hs = some (k', r', nP', mB', mH', hs') ∧ f_X9_pay x1 x2 mM nM = some (rM, mM', nM') ∧ mM' 8 0 = cd ∧ (k' = 0 → r' = rM) ∧ LI mT mP nP' mS mB' mO mR mA nA mH' hs' mM' nM' := by
  obtain ⟨v, c, H, n, t, h, R, hH, hM, hT, hm⟩ := hI
  obtain ⟨a, a0, a1, ea⟩ := z_ex x1
  subst ea
  obtain ⟨x, x0, x1, ex⟩ := z_ex x2
  subst ex
  obtain ⟨k, cd, r, v2, c2, H2, h2, hk, e8, e9⟩ := p_pay (imT := mT) (imdP := imdP) (indP := indP) (imdS := imdS) (imdB := imdB) (imdO := imdO) (imdR := imdR) (imdA := imdA) (indA := indA) (mP := mP) (nP := nP) (mS := mS) (mB := mB) (mO := mO) (mR := mR) (mA := mA) (nA := nA) (mH := mH) (hs := hs) (mM := mM) (nM := nM) h R hH hM a0 a1 x0 x1
  obtain ⟨⟨k0, r0, nP', mB', mH', hs'⟩, e8, q1, q2, q3, q4⟩ := e8
  obtain ⟨⟨r9, mM', nM'⟩, e9, s1, s2, s3, s4⟩ := e9
  dsimp only at q1 q2 q3 q4 s1 s2 s3 s4
  subst q1
  refine ⟨k0, r0, r9, zI cd, nP', mB', mH', hs', mM', nM', ?_, e8, e9, s1, fun h0 => (q2 h0).trans (s2 h0).symm, v2, c2, H2, n, t, h2, q3, q4, s4, hT, TM_sm hm s3⟩
  rcases hk with ⟨rfl, rfl⟩ | ⟨rfl, rfl⟩ | ⟨rfl, rfl⟩ | ⟨rfl, rfl⟩ <;> decide
theorem g_undo {mT : Mem} {mP : Mem} {nP : MemL} {mS : Mem} {mB : Mem} {mO : Mem} {mR : Mem} {mA : Mem} {nA : MemL} {mH : Mem} {hs : (Nat → PSt)} {mM : Mem} {nM : MemL} {imdP : Mem} {indP : MemL} {imdS : Mem} {imdB : Mem} {imdO : Mem} {imdR : Mem} {imdA : Mem} {indA : MemL} (hI : LI mT mP nP mS mB mO mR mA nA mH hs mM nM) : ∃ (k' : Nat) (r' rM : Int32) (cd : Int32) (mP' : Mem) (nP' : MemL) (mS' : Mem) (mB' : Mem) (mO' : Mem) (mR' : Mem) (mA' : Mem) (nA' : MemL) (mH' : Mem) (mM' : Mem) (nM' : MemL), (k' = 0 ∧ cd = 0 ∨ k' = 3 ∧ cd = 1) ∧ f_X8_undo mT imdP indP imdS imdB imdO imdR imdA indA mP nP mS mB mO mR mA nA mH hs = some (k', r', mP', nP', mS', mB', mO', mR', mA', nA', mH') ∧ f_X9_undo mM nM = some (rM, mM', nM') ∧ mM' 8 0 = cd ∧ (k' = 0 → r' = rM) ∧ LI mT mP' nP' mS' mB' mO' mR' mA' nA' mH' hs mM' nM' := by
  obtain ⟨v, c, H, n, t, h, R, hH, hM, hT, hm⟩ := hI
  obtain ⟨k, cd, r, v2, c2, H2, h2, hk, e8, e9⟩ := p_undo (imT := mT) (imdP := imdP) (indP := indP) (imdS := imdS) (imdB := imdB) (imdO := imdO) (imdR := imdR) (imdA := imdA) (indA := indA) (mP := mP) (nP := nP) (mS := mS) (mB := mB) (mO := mO) (mR := mR) (mA := mA) (nA := nA) (mH := mH) (hs := hs) (mM := mM) (nM := nM) h R hH hM 
  obtain ⟨⟨k0, r0, mP', nP', mS', mB', mO', mR', mA', nA', mH'⟩, e8, q1, q2, q3, q4⟩ := e8
  obtain ⟨⟨r9, mM', nM'⟩, e9, s1, s2, s3, s4⟩ := e9
  dsimp only at q1 q2 q3 q4 s1 s2 s3 s4
  subst q1
  refine ⟨k0, r0, r9, zI cd, mP', nP', mS', mB', mO', mR', mA', nA', mH', mM', nM', ?_, e8, e9, s1, fun h0 => (q2 h0).trans (s2 h0).symm, v2, c2, H2, n, t, h2, q3, q4, s4, hT, TM_sm hm s3⟩
  rcases hk with ⟨rfl, rfl⟩ | ⟨rfl, rfl⟩ <;> decide
theorem g_silo {mT : Mem} {mP : Mem} {nP : MemL} {mS : Mem} {mB : Mem} {mO : Mem} {mR : Mem} {mA : Mem} {nA : MemL} {mH : Mem} {hs : (Nat → PSt)} {mM : Mem} {nM : MemL} {imdP : Mem} {indP : MemL} {imdS : Mem} {imdB : Mem} {imdO : Mem} {imdR : Mem} {imdA : Mem} {indA : MemL} (hI : LI mT mP nP mS mB mO mR mA nA mH hs mM nM) (x1 x2 : Int32) : ∃ (k' : Nat) (r' rM : Int32) (cd : Int32) (mM' : Mem), (k' = 0 ∧ cd = 0 ∨ k' = 1 ∧ cd = 1 ∨ k' = 2 ∧ cd = 2) ∧ f_X8_silo x1 x2 mT imdP indP imdS imdB imdO imdR imdA indA mP nP mS mB mO mR mA nA mH hs = some (k', r') ∧ f_X9_silo x1 x2 mM nM = some (rM, mM') ∧ mM' 8 0 = cd ∧ (k' = 0 → r' = rM) ∧ LI mT mP nP mS mB mO mR mA nA mH hs mM' nM := by
  obtain ⟨v, c, H, n, t, h, R, hH, hM, hT, hm⟩ := hI
  obtain ⟨a, a0, a1, ea⟩ := z_ex x1
  subst ea
  obtain ⟨x, x0, x1, ex⟩ := z_ex x2
  subst ex
  obtain ⟨k, cd, r, r0, hk, e8, q2, e9⟩ := q_silo (imT := mT) (imdP := imdP) (indP := indP) (imdS := imdS) (imdB := imdB) (imdO := imdO) (imdR := imdR) (imdA := imdA) (indA := indA) (mP := mP) (nP := nP) (mS := mS) (mB := mB) (mO := mO) (mR := mR) (mA := mA) (nA := nA) (mH := mH) (hs := hs) (mM := mM) (nM := nM) h R hM a0 a1 x0 x1
  obtain ⟨⟨r9, mM'⟩, e9, s1, s2, s3, s4⟩ := e9
  dsimp only at s1 s2 s3 s4
  refine ⟨k, r0, r9, zI cd, mM', ?_, e8, e9, s1, fun h0 => (q2 h0).trans (s2 h0).symm, v, c, H, n, t, h, R, hH, hM.keep s4, hT, TM_sm hm s3⟩
  rcases hk with ⟨rfl, rfl⟩ | ⟨rfl, rfl⟩ | ⟨rfl, rfl⟩ <;> decide
theorem g_block {mT : Mem} {mP : Mem} {nP : MemL} {mS : Mem} {mB : Mem} {mO : Mem} {mR : Mem} {mA : Mem} {nA : MemL} {mH : Mem} {hs : (Nat → PSt)} {mM : Mem} {nM : MemL} {imdP : Mem} {indP : MemL} {imdS : Mem} {imdB : Mem} {imdO : Mem} {imdR : Mem} {imdA : Mem} {indA : MemL} (hI : LI mT mP nP mS mB mO mR mA nA mH hs mM nM) (x1 x2 x3 : Int32) : ∃ (k' : Nat) (r' rM : Int32) (cd : Int32) (mM' : Mem), (k' = 0 ∧ cd = 0 ∨ k' = 1 ∧ cd = 1 ∨ k' = 2 ∧ cd = 2) ∧ f_X8_block x1 x2 x3 mT imdP indP imdS imdB imdO imdR imdA indA mP nP mS mB mO mR mA nA mH hs = some (k', r') ∧ f_X9_block x1 x2 x3 mM nM = some (rM, mM') ∧ mM' 8 0 = cd ∧ (k' = 0 → r' = rM) ∧ LI mT mP nP mS mB mO mR mA nA mH hs mM' nM := by
  obtain ⟨v, c, H, n, t, h, R, hH, hM, hT, hm⟩ := hI
  obtain ⟨a, a0, a1, ea⟩ := z_ex x1
  subst ea
  obtain ⟨x, x0, x1, ex⟩ := z_ex x2
  subst ex
  obtain ⟨y, y0, y1, ey⟩ := z_ex x3
  subst ey
  obtain ⟨k, cd, r, r0, hk, e8, q2, e9⟩ := q_block (imT := mT) (imdP := imdP) (indP := indP) (imdS := imdS) (imdB := imdB) (imdO := imdO) (imdR := imdR) (imdA := imdA) (indA := indA) (mP := mP) (nP := nP) (mS := mS) (mB := mB) (mO := mO) (mR := mR) (mA := mA) (nA := nA) (mH := mH) (hs := hs) (mM := mM) (nM := nM) h R hM a0 a1 x0 x1 y0 y1
  obtain ⟨⟨r9, mM'⟩, e9, s1, s2, s3, s4⟩ := e9
  dsimp only at s1 s2 s3 s4
  refine ⟨k, r0, r9, zI cd, mM', ?_, e8, e9, s1, fun h0 => (q2 h0).trans (s2 h0).symm, v, c, H, n, t, h, R, hH, hM.keep s4, hT, TM_sm hm s3⟩
  rcases hk with ⟨rfl, rfl⟩ | ⟨rfl, rfl⟩ | ⟨rfl, rfl⟩ <;> decide
theorem g_boat {mT : Mem} {mP : Mem} {nP : MemL} {mS : Mem} {mB : Mem} {mO : Mem} {mR : Mem} {mA : Mem} {nA : MemL} {mH : Mem} {hs : (Nat → PSt)} {mM : Mem} {nM : MemL} {imdP : Mem} {indP : MemL} {imdS : Mem} {imdB : Mem} {imdO : Mem} {imdR : Mem} {imdA : Mem} {indA : MemL} (hI : LI mT mP nP mS mB mO mR mA nA mH hs mM nM) (x1 x2 : Int32) : ∃ (k' : Nat) (r' rM : Int32) (cd : Int32) (mM' : Mem), (k' = 0 ∧ cd = 0 ∨ k' = 1 ∧ cd = 1 ∨ k' = 2 ∧ cd = 2) ∧ f_X8_boat x1 x2 mT imdP indP imdS imdB imdO imdR imdA indA mP nP mS mB mO mR mA nA mH hs = some (k', r') ∧ f_X9_boat x1 x2 mM nM = some (rM, mM') ∧ mM' 8 0 = cd ∧ (k' = 0 → r' = rM) ∧ LI mT mP nP mS mB mO mR mA nA mH hs mM' nM := by
  obtain ⟨v, c, H, n, t, h, R, hH, hM, hT, hm⟩ := hI
  obtain ⟨a, a0, a1, ea⟩ := z_ex x1
  subst ea
  obtain ⟨x, x0, x1, ex⟩ := z_ex x2
  subst ex
  obtain ⟨k, cd, r, r0, hk, e8, q2, e9⟩ := q_boat (imT := mT) (imdP := imdP) (indP := indP) (imdS := imdS) (imdB := imdB) (imdO := imdO) (imdR := imdR) (imdA := imdA) (indA := indA) (mP := mP) (nP := nP) (mS := mS) (mB := mB) (mO := mO) (mR := mR) (mA := mA) (nA := nA) (mH := mH) (hs := hs) (mM := mM) (nM := nM) h R hM a0 a1 x0 x1
  obtain ⟨⟨r9, mM'⟩, e9, s1, s2, s3, s4⟩ := e9
  dsimp only at s1 s2 s3 s4
  refine ⟨k, r0, r9, zI cd, mM', ?_, e8, e9, s1, fun h0 => (q2 h0).trans (s2 h0).symm, v, c, H, n, t, h, R, hH, hM.keep s4, hT, TM_sm hm s3⟩
  rcases hk with ⟨rfl, rfl⟩ | ⟨rfl, rfl⟩ | ⟨rfl, rfl⟩ <;> decide
theorem g_orderProperty {mT : Mem} {mP : Mem} {nP : MemL} {mS : Mem} {mB : Mem} {mO : Mem} {mR : Mem} {mA : Mem} {nA : MemL} {mH : Mem} {hs : (Nat → PSt)} {mM : Mem} {nM : MemL} {imdP : Mem} {indP : MemL} {imdS : Mem} {imdB : Mem} {imdO : Mem} {imdR : Mem} {imdA : Mem} {indA : MemL} (hI : LI mT mP nP mS mB mO mR mA nA mH hs mM nM) (x1 x2 : Int32) : ∃ (k' : Nat) (r' rM : Int32) (cd : Int32) (mM' : Mem), (k' = 0 ∧ cd = 0 ∨ k' = 1 ∧ cd = 1 ∨ k' = 2 ∧ cd = 2) ∧ f_X8_orderProperty x1 x2 mT imdP indP imdS imdB imdO imdR imdA indA mP nP mS mB mO mR mA nA mH hs = some (k', r') ∧ f_X9_orderProperty x1 x2 mM nM = some (rM, mM') ∧ mM' 8 0 = cd ∧ (k' = 0 → r' = rM) ∧ LI mT mP nP mS mB mO mR mA nA mH hs mM' nM := by
  obtain ⟨v, c, H, n, t, h, R, hH, hM, hT, hm⟩ := hI
  obtain ⟨a, a0, a1, ea⟩ := z_ex x1
  subst ea
  obtain ⟨x, x0, x1, ex⟩ := z_ex x2
  subst ex
  obtain ⟨k, cd, r, r0, hk, e8, q2, e9⟩ := q_orderProperty (imT := mT) (imdP := imdP) (indP := indP) (imdS := imdS) (imdB := imdB) (imdO := imdO) (imdR := imdR) (imdA := imdA) (indA := indA) (mP := mP) (nP := nP) (mS := mS) (mB := mB) (mO := mO) (mR := mR) (mA := mA) (nA := nA) (mH := mH) (hs := hs) (mM := mM) (nM := nM) h R hM a0 a1 x0 x1
  obtain ⟨⟨r9, mM'⟩, e9, s1, s2, s3, s4⟩ := e9
  dsimp only at s1 s2 s3 s4
  refine ⟨k, r0, r9, zI cd, mM', ?_, e8, e9, s1, fun h0 => (q2 h0).trans (s2 h0).symm, v, c, H, n, t, h, R, hH, hM.keep s4, hT, TM_sm hm s3⟩
  rcases hk with ⟨rfl, rfl⟩ | ⟨rfl, rfl⟩ | ⟨rfl, rfl⟩ <;> decide
theorem g_receipt {mT : Mem} {mP : Mem} {nP : MemL} {mS : Mem} {mB : Mem} {mO : Mem} {mR : Mem} {mA : Mem} {nA : MemL} {mH : Mem} {hs : (Nat → PSt)} {mM : Mem} {nM : MemL} {imdP : Mem} {indP : MemL} {imdS : Mem} {imdB : Mem} {imdO : Mem} {imdR : Mem} {imdA : Mem} {indA : MemL} (hI : LI mT mP nP mS mB mO mR mA nA mH hs mM nM) (x1 x2 : Int32) : ∃ (k' : Nat) (r' rM : Int32) (cd : Int32) (mM' : Mem), (k' = 0 ∧ cd = 0 ∨ k' = 1 ∧ cd = 1 ∨ k' = 2 ∧ cd = 2) ∧ f_X8_receipt x1 x2 mT imdP indP imdS imdB imdO imdR imdA indA mP nP mS mB mO mR mA nA mH hs = some (k', r') ∧ f_X9_receipt x1 x2 mM nM = some (rM, mM') ∧ mM' 8 0 = cd ∧ (k' = 0 → r' = rM) ∧ LI mT mP nP mS mB mO mR mA nA mH hs mM' nM := by
  obtain ⟨v, c, H, n, t, h, R, hH, hM, hT, hm⟩ := hI
  obtain ⟨a, a0, a1, ea⟩ := z_ex x1
  subst ea
  obtain ⟨x, x0, x1, ex⟩ := z_ex x2
  subst ex
  obtain ⟨k, cd, r, r0, hk, e8, q2, e9⟩ := q_receipt (imT := mT) (imdP := imdP) (indP := indP) (imdS := imdS) (imdB := imdB) (imdO := imdO) (imdR := imdR) (imdA := imdA) (indA := indA) (mP := mP) (nP := nP) (mS := mS) (mB := mB) (mO := mO) (mR := mR) (mA := mA) (nA := nA) (mH := mH) (hs := hs) (mM := mM) (nM := nM) h R hM a0 a1 x0 x1
  obtain ⟨⟨r9, mM'⟩, e9, s1, s2, s3, s4⟩ := e9
  dsimp only at s1 s2 s3 s4
  refine ⟨k, r0, r9, zI cd, mM', ?_, e8, e9, s1, fun h0 => (q2 h0).trans (s2 h0).symm, v, c, H, n, t, h, R, hH, hM.keep s4, hT, TM_sm hm s3⟩
  rcases hk with ⟨rfl, rfl⟩ | ⟨rfl, rfl⟩ | ⟨rfl, rfl⟩ <;> decide
theorem g_account {mT : Mem} {mP : Mem} {nP : MemL} {mS : Mem} {mB : Mem} {mO : Mem} {mR : Mem} {mA : Mem} {nA : MemL} {mH : Mem} {hs : (Nat → PSt)} {mM : Mem} {nM : MemL} {imdP : Mem} {indP : MemL} {imdS : Mem} {imdB : Mem} {imdO : Mem} {imdR : Mem} {imdA : Mem} {indA : MemL} (hI : LI mT mP nP mS mB mO mR mA nA mH hs mM nM) (x1 x2 : Int32) : ∃ (k' : Nat) (r' rM : Int64) (cd : Int32) (mM' : Mem), (k' = 0 ∧ cd = 0 ∨ k' = 1 ∧ cd = 1 ∨ k' = 2 ∧ cd = 2) ∧ f_X8_account x1 x2 mT imdP indP imdS imdB imdO imdR imdA indA mP nP mS mB mO mR mA nA mH hs = some (k', r') ∧ f_X9_account x1 x2 mM nM = some (rM, mM') ∧ mM' 8 0 = cd ∧ (k' = 0 → r' = rM) ∧ LI mT mP nP mS mB mO mR mA nA mH hs mM' nM := by
  obtain ⟨v, c, H, n, t, h, R, hH, hM, hT, hm⟩ := hI
  obtain ⟨a, a0, a1, ea⟩ := z_ex x1
  subst ea
  obtain ⟨x, x0, x1, ex⟩ := z_ex x2
  subst ex
  obtain ⟨k, cd, r, r0, hk, e8, q2, e9⟩ := q_account (imT := mT) (imdP := imdP) (indP := indP) (imdS := imdS) (imdB := imdB) (imdO := imdO) (imdR := imdR) (imdA := imdA) (indA := indA) (mP := mP) (nP := nP) (mS := mS) (mB := mB) (mO := mO) (mR := mR) (mA := mA) (nA := nA) (mH := mH) (hs := hs) (mM := mM) (nM := nM) h R hM a0 a1 x0 x1
  obtain ⟨⟨r9, mM'⟩, e9, s1, s2, s3, s4⟩ := e9
  dsimp only at s1 s2 s3 s4
  refine ⟨k, r0, r9, zI cd, mM', ?_, e8, e9, s1, fun h0 => (q2 h0).trans (s2 h0).symm, v, c, H, n, t, h, R, hH, hM.keep s4, hT, TM_sm hm s3⟩
  rcases hk with ⟨rfl, rfl⟩ | ⟨rfl, rfl⟩ | ⟨rfl, rfl⟩ <;> decide
theorem g_findAccount {mT : Mem} {mP : Mem} {nP : MemL} {mS : Mem} {mB : Mem} {mO : Mem} {mR : Mem} {mA : Mem} {nA : MemL} {mH : Mem} {hs : (Nat → PSt)} {mM : Mem} {nM : MemL} {imdP : Mem} {indP : MemL} {imdS : Mem} {imdB : Mem} {imdO : Mem} {imdR : Mem} {imdA : Mem} {indA : MemL} (hI : LI mT mP nP mS mB mO mR mA nA mH hs mM nM) (x1 x2 : Int32) : ∃ (k' : Nat) (r' rM : Int32) (cd : Int32) (mM' : Mem), (k' = 0 ∧ cd = 0 ∨ k' = 1 ∧ cd = 1 ∨ k' = 2 ∧ cd = 2) ∧ f_X8_findAccount x1 x2 mT imdP indP imdS imdB imdO imdR imdA indA mP nP mS mB mO mR mA nA mH hs = some (k', r') ∧ f_X9_findAccount x1 x2 mM nM = some (rM, mM') ∧ mM' 8 0 = cd ∧ (k' = 0 → r' = rM) ∧ LI mT mP nP mS mB mO mR mA nA mH hs mM' nM := by
  obtain ⟨v, c, H, n, t, h, R, hH, hM, hT, hm⟩ := hI
  obtain ⟨a, a0, a1, ea⟩ := z_ex x1
  subst ea
  obtain ⟨x, x0, x1, ex⟩ := z_ex x2
  subst ex
  obtain ⟨k, cd, r, r0, hk, e8, q2, e9⟩ := q_findAccount (imT := mT) (imdP := imdP) (indP := indP) (imdS := imdS) (imdB := imdB) (imdO := imdO) (imdR := imdR) (imdA := imdA) (indA := indA) (mP := mP) (nP := nP) (mS := mS) (mB := mB) (mO := mO) (mR := mR) (mA := mA) (nA := nA) (mH := mH) (hs := hs) (mM := mM) (nM := nM) h R hM a0 a1 x0 x1
  obtain ⟨⟨r9, mM'⟩, e9, s1, s2, s3, s4⟩ := e9
  dsimp only at s1 s2 s3 s4
  refine ⟨k, r0, r9, zI cd, mM', ?_, e8, e9, s1, fun h0 => (q2 h0).trans (s2 h0).symm, v, c, H, n, t, h, R, hH, hM.keep s4, hT, TM_sm hm s3⟩
  rcases hk with ⟨rfl, rfl⟩ | ⟨rfl, rfl⟩ | ⟨rfl, rfl⟩ <;> decide
theorem g_setting {mT : Mem} {mP : Mem} {nP : MemL} {mS : Mem} {mB : Mem} {mO : Mem} {mR : Mem} {mA : Mem} {nA : MemL} {mH : Mem} {hs : (Nat → PSt)} {mM : Mem} {nM : MemL} {imdP : Mem} {indP : MemL} {imdS : Mem} {imdB : Mem} {imdO : Mem} {imdR : Mem} {imdA : Mem} {indA : MemL} (hI : LI mT mP nP mS mB mO mR mA nA mH hs mM nM) (x1 : Int32) : ∃ (k' : Nat) (r' rM : Int32) (cd : Int32) (mM' : Mem), (k' = 0 ∧ cd = 0 ∨ k' = 1 ∧ cd = 1) ∧ f_X8_setting x1 mT imdP indP imdS imdB imdO imdR imdA indA mP nP mS mB mO mR mA nA mH hs = some (k', r') ∧ f_X9_setting x1 mM nM = some (rM, mM') ∧ mM' 8 0 = cd ∧ (k' = 0 → r' = rM) ∧ LI mT mP nP mS mB mO mR mA nA mH hs mM' nM := by
  obtain ⟨v, c, H, n, t, h, R, hH, hM, hT, hm⟩ := hI
  obtain ⟨a, a0, a1, ea⟩ := z_ex x1
  subst ea
  obtain ⟨k, cd, r, r0, hk, e8, q2, e9⟩ := q_setting2 (imT := mT) (imdP := imdP) (indP := indP) (imdS := imdS) (imdB := imdB) (imdO := imdO) (imdR := imdR) (imdA := imdA) (indA := indA) (mP := mP) (nP := nP) (mS := mS) (mB := mB) (mO := mO) (mR := mR) (mA := mA) (nA := nA) (mH := mH) (hs := hs) (mM := mM) (nM := nM) h R hM a0 a1
  obtain ⟨⟨r9, mM'⟩, e9, s1, s2, s3, s4⟩ := e9
  dsimp only at s1 s2 s3 s4
  refine ⟨k, r0, r9, zI cd, mM', ?_, e8, e9, s1, fun h0 => (q2 h0).trans (s2 h0).symm, v, c, H, n, t, h, R, hH, hM.keep s4, hT, TM_sm hm s3⟩
  rcases hk with ⟨rfl, rfl⟩ | ⟨rfl, rfl⟩ <;> decide
theorem g_total {mT : Mem} {mP : Mem} {nP : MemL} {mS : Mem} {mB : Mem} {mO : Mem} {mR : Mem} {mA : Mem} {nA : MemL} {mH : Mem} {hs : (Nat → PSt)} {mM : Mem} {nM : MemL} {imdP : Mem} {indP : MemL} {imdS : Mem} {imdB : Mem} {imdO : Mem} {imdR : Mem} {imdA : Mem} {indA : MemL} (hI : LI mT mP nP mS mB mO mR mA nA mH hs mM nM) (x1 : Int32) : ∃ (k' : Nat) (r' rM : Int64) (cd : Int32) (mM' : Mem), (k' = 0 ∧ cd = 0 ∨ k' = 2 ∧ cd = 1) ∧ f_X8_total x1 mT imdP indP imdS imdB imdO imdR imdA indA mP nP mS mB mO mR mA nA mH hs = some (k', r') ∧ f_X9_total x1 mM nM = some (rM, mM') ∧ mM' 8 0 = cd ∧ (k' = 0 → r' = rM) ∧ LI mT mP nP mS mB mO mR mA nA mH hs mM' nM := by
  obtain ⟨v, c, H, n, t, h, R, hH, hM, hT, hm⟩ := hI
  obtain ⟨a, a0, a1, ea⟩ := z_ex x1
  subst ea
  obtain ⟨k, cd, r, r0, hk, e8, q2, e9⟩ := q_total (imT := mT) (imdP := imdP) (indP := indP) (imdS := imdS) (imdB := imdB) (imdO := imdO) (imdR := imdR) (imdA := imdA) (indA := indA) (mP := mP) (nP := nP) (mS := mS) (mB := mB) (mO := mO) (mR := mR) (mA := mA) (nA := nA) (mH := mH) (hs := hs) (mM := mM) (nM := nM) h R hH hM a0 a1
  obtain ⟨⟨r9, mM'⟩, e9, s1, s2, s3, s4⟩ := e9
  dsimp only at s1 s2 s3 s4
  refine ⟨k, r0, r9, zI cd, mM', ?_, e8, e9, s1, fun h0 => (q2 h0).trans (s2 h0).symm, v, c, H, n, t, h, R, hH, hM.keep s4, hT, TM_sm hm s3⟩
  rcases hk with ⟨rfl, rfl⟩ | ⟨rfl, rfl⟩ <;> decide
theorem g_quote {mT : Mem} {mP : Mem} {nP : MemL} {mS : Mem} {mB : Mem} {mO : Mem} {mR : Mem} {mA : Mem} {nA : MemL} {mH : Mem} {hs : (Nat → PSt)} {mM : Mem} {nM : MemL} {imdP : Mem} {indP : MemL} {imdS : Mem} {imdB : Mem} {imdO : Mem} {imdR : Mem} {imdA : Mem} {indA : MemL} (hI : LI mT mP nP mS mB mO mR mA nA mH hs mM nM) (x1 x2 x3 : Int32) : ∃ (k' : Nat) (r' rM : Int32) (cd : Int32) (mM' : Mem), (k' = 0 ∧ cd = 0 ∨ k' = 1 ∧ cd = 1 ∨ k' = 2 ∧ cd = 2) ∧ f_X8_quote x1 x2 x3 mT imdP indP imdS imdB imdO imdR imdA indA mP nP mS mB mO mR mA nA mH hs = some (k', r') ∧ f_X9_quote x1 x2 x3 mM nM = some (rM, mM') ∧ mM' 8 0 = cd ∧ (k' = 0 → r' = rM) ∧ LI mT mP nP mS mB mO mR mA nA mH hs mM' nM := by
  obtain ⟨v, c, H, n, t, h, R, hH, hM, hT, hm⟩ := hI
  obtain ⟨a, a0, a1, ea⟩ := z_ex x1
  subst ea
  obtain ⟨x, x0, x1, ex⟩ := z_ex x2
  subst ex
  obtain ⟨y, y0, y1, ey⟩ := z_ex x3
  subst ey
  obtain ⟨k, cd, r, r0, hk, e8, q2, e9⟩ := q_quote (imT := mT) (imdP := imdP) (indP := indP) (imdS := imdS) (imdB := imdB) (imdO := imdO) (imdR := imdR) (imdA := imdA) (indA := indA) (mP := mP) (nP := nP) (mS := mS) (mB := mB) (mO := mO) (mR := mR) (mA := mA) (nA := nA) (mH := mH) (hs := hs) (mM := mM) (nM := nM) h R hM a0 a1 x0 x1 y0 y1
  obtain ⟨⟨r9, mM'⟩, e9, s1, s2, s3, s4⟩ := e9
  dsimp only at s1 s2 s3 s4
  refine ⟨k, r0, r9, zI cd, mM', ?_, e8, e9, s1, fun h0 => (q2 h0).trans (s2 h0).symm, v, c, H, n, t, h, R, hH, hM.keep s4, hT, TM_sm hm s3⟩
  rcases hk with ⟨rfl, rfl⟩ | ⟨rfl, rfl⟩ | ⟨rfl, rfl⟩ <;> decide
theorem g_massAfter {mT : Mem} {mP : Mem} {nP : MemL} {mS : Mem} {mB : Mem} {mO : Mem} {mR : Mem} {mA : Mem} {nA : MemL} {mH : Mem} {hs : (Nat → PSt)} {mM : Mem} {nM : MemL} {imdP : Mem} {indP : MemL} {imdS : Mem} {imdB : Mem} {imdO : Mem} {imdR : Mem} {imdA : Mem} {indA : MemL} (hI : LI mT mP nP mS mB mO mR mA nA mH hs mM nM) (x1 : Int32) : ∃ (k' : Nat) (r' rM : Int32) (cd : Int32) (imdP' : Mem) (indP' : MemL) (imdS' : Mem) (imdB' : Mem) (imdO' : Mem) (imdR' : Mem) (imdA' : Mem) (indA' : MemL) (mM' : Mem) (nM' : MemL), (k' = 0 ∧ cd = 0 ∨ k' = 2 ∧ cd = 1) ∧ f_X8_massAfter x1 mT imdP indP imdS imdB imdO imdR imdA indA mP nP mS mB mO mR mA nA mH hs = some (k', r', imdP', indP', imdS', imdB', imdO', imdR', imdA', indA') ∧ f_X9_massAfter x1 mM nM = some (rM, mM', nM') ∧ mM' 8 0 = cd ∧ (k' = 0 → r' = rM) ∧ LI mT mP nP mS mB mO mR mA nA mH hs mM' nM' := by
  obtain ⟨v, c, H, n, t, h, R, hH, hM, hT, hm⟩ := hI
  obtain ⟨a, a0, a1, ea⟩ := z_ex x1
  subst ea
  obtain ⟨k, cd, r, hk, e8, e9⟩ := t_massAfter (imT := mT) (imdP := imdP) (indP := indP) (imdS := imdS) (imdB := imdB) (imdO := imdO) (imdR := imdR) (imdA := imdA) (indA := indA) (mP := mP) (nP := nP) (mS := mS) (mB := mB) (mO := mO) (mR := mR) (mA := mA) (nA := nA) (mH := mH) (hs := hs) (mM := mM) (nM := nM) h R hM a0 a1
  obtain ⟨⟨k0, r0, imdP', indP', imdS', imdB', imdO', imdR', imdA', indA'⟩, e8, q1, q2⟩ := e8
  obtain ⟨⟨r9, mM', nM'⟩, e9, s1, s2, s3, s4⟩ := e9
  dsimp only at q1 q2 s1 s2 s3 s4
  subst q1
  refine ⟨k0, r0, r9, zI cd, imdP', indP', imdS', imdB', imdO', imdR', imdA', indA', mM', nM', ?_, e8, e9, s1, fun h0 => (q2 h0).trans (s2 h0).symm, v, c, H, n, t, h, R, hH, s4, hT, TM_sm hm s3⟩
  rcases hk with ⟨rfl, rfl⟩ | ⟨rfl, rfl⟩ <;> decide
theorem g_completeIn {mT : Mem} {mP : Mem} {nP : MemL} {mS : Mem} {mB : Mem} {mO : Mem} {mR : Mem} {mA : Mem} {nA : MemL} {mH : Mem} {hs : (Nat → PSt)} {mM : Mem} {nM : MemL} {imdP : Mem} {indP : MemL} {imdS : Mem} {imdB : Mem} {imdO : Mem} {imdR : Mem} {imdA : Mem} {indA : MemL} (hI : LI mT mP nP mS mB mO mR mA nA mH hs mM nM) (x1 : Int32) : ∃ (k' : Nat) (r' rM : Int32) (cd : Int32) (imdP' : Mem) (indP' : MemL) (imdS' : Mem) (imdB' : Mem) (imdO' : Mem) (imdR' : Mem) (imdA' : Mem) (indA' : MemL) (mM' : Mem) (nM' : MemL), (k' = 0 ∧ cd = 0 ∨ k' = 1 ∧ cd = 1 ∨ k' = 3 ∧ cd = 2) ∧ f_X8_completeIn x1 mT imdP indP imdS imdB imdO imdR imdA indA mP nP mS mB mO mR mA nA mH hs = some (k', r', imdP', indP', imdS', imdB', imdO', imdR', imdA', indA') ∧ f_X9_completeIn x1 mM nM = some (rM, mM', nM') ∧ mM' 8 0 = cd ∧ (k' = 0 → r' = rM) ∧ LI mT mP nP mS mB mO mR mA nA mH hs mM' nM' := by
  obtain ⟨v, c, H, n, t, h, R, hH, hM, hT, hm⟩ := hI
  obtain ⟨a, a0, a1, ea⟩ := z_ex x1
  subst ea
  obtain ⟨k, cd, r, hk, e8, e9⟩ := t_completeIn (imT := mT) (imdP := imdP) (indP := indP) (imdS := imdS) (imdB := imdB) (imdO := imdO) (imdR := imdR) (imdA := imdA) (indA := indA) (mP := mP) (nP := nP) (mS := mS) (mB := mB) (mO := mO) (mR := mR) (mA := mA) (nA := nA) (mH := mH) (hs := hs) (mM := mM) (nM := nM) h R hM a0 a1
  obtain ⟨⟨k0, r0, imdP', indP', imdS', imdB', imdO', imdR', imdA', indA'⟩, e8, q1, q2⟩ := e8
  obtain ⟨⟨r9, mM', nM'⟩, e9, s1, s2, s3, s4⟩ := e9
  dsimp only at q1 q2 s1 s2 s3 s4
  subst q1
  refine ⟨k0, r0, r9, zI cd, imdP', indP', imdS', imdB', imdO', imdR', imdA', indA', mM', nM', ?_, e8, e9, s1, fun h0 => (q2 h0).trans (s2 h0).symm, v, c, H, n, t, h, R, hH, s4, hT, TM_sm hm s3⟩
  rcases hk with ⟨rfl, rfl⟩ | ⟨rfl, rfl⟩ | ⟨rfl, rfl⟩ <;> decide
theorem g_bestRule {mT : Mem} {mP : Mem} {nP : MemL} {mS : Mem} {mB : Mem} {mO : Mem} {mR : Mem} {mA : Mem} {nA : MemL} {mH : Mem} {hs : (Nat → PSt)} {mM : Mem} {nM : MemL} {imdP : Mem} {indP : MemL} {imdS : Mem} {imdB : Mem} {imdO : Mem} {imdR : Mem} {imdA : Mem} {indA : MemL} (hI : LI mT mP nP mS mB mO mR mA nA mH hs mM nM) (x1 x2 : Int32) : ∃ (k' : Nat) (r' rM : Int32) (cd : Int32) (imdP' : Mem) (indP' : MemL) (imdS' : Mem) (imdB' : Mem) (imdO' : Mem) (imdR' : Mem) (imdA' : Mem) (indA' : MemL) (mM' : Mem) (nM' : MemL), (k' = 0 ∧ cd = 0 ∨ k' = 1 ∧ cd = 1 ∨ k' = 2 ∧ cd = 2) ∧ f_X8_bestRule x1 x2 mT imdP indP imdS imdB imdO imdR imdA indA mP nP mS mB mO mR mA nA mH hs = some (k', r', imdP', indP', imdS', imdB', imdO', imdR', imdA', indA') ∧ f_X9_bestRule x1 x2 mM nM = some (rM, mM', nM') ∧ mM' 8 0 = cd ∧ (k' = 0 → r' = rM) ∧ LI mT mP nP mS mB mO mR mA nA mH hs mM' nM' := by
  obtain ⟨v, c, H, n, t, h, R, hH, hM, hT, hm⟩ := hI
  obtain ⟨a, a0, a1, ea⟩ := z_ex x1
  subst ea
  obtain ⟨x, x0, x1, ex⟩ := z_ex x2
  subst ex
  obtain ⟨k, cd, r, hk, e8, e9⟩ := t_bestRule (imT := mT) (imdP := imdP) (indP := indP) (imdS := imdS) (imdB := imdB) (imdO := imdO) (imdR := imdR) (imdA := imdA) (indA := indA) (mP := mP) (nP := nP) (mS := mS) (mB := mB) (mO := mO) (mR := mR) (mA := mA) (nA := nA) (mH := mH) (hs := hs) (mM := mM) (nM := nM) h R hM a0 a1 x0 x1
  obtain ⟨⟨k0, r0, imdP', indP', imdS', imdB', imdO', imdR', imdA', indA'⟩, e8, q1, q2⟩ := e8
  obtain ⟨⟨r9, mM', nM'⟩, e9, s1, s2, s3, s4⟩ := e9
  dsimp only at q1 q2 s1 s2 s3 s4
  subst q1
  refine ⟨k0, r0, r9, zI cd, imdP', indP', imdS', imdB', imdO', imdR', imdA', indA', mM', nM', ?_, e8, e9, s1, fun h0 => (q2 h0).trans (s2 h0).symm, v, c, H, n, t, h, R, hH, s4, hT, TM_sm hm s3⟩
  rcases hk with ⟨rfl, rfl⟩ | ⟨rfl, rfl⟩ | ⟨rfl, rfl⟩ <;> decide
theorem g_append {mT : Mem} {mP : Mem} {nP : MemL} {mS : Mem} {mB : Mem} {mO : Mem} {mR : Mem} {mA : Mem} {nA : MemL} {mH : Mem} {hs : (Nat → PSt)} {mM : Mem} {nM : MemL} {imdP : Mem} {indP : MemL} {imdS : Mem} {imdB : Mem} {imdO : Mem} {imdR : Mem} {imdA : Mem} {indA : MemL} (hI : LI mT mP nP mS mB mO mR mA nA mH hs mM nM) (x1 : Int32) : ∃ (k' : Nat) (r' rM : Int32) (cd : Int32) (mT' : Mem) (mM' : Mem), (k' = 0 ∧ cd = 0 ∨ k' = 2 ∧ cd = 1 ∨ k' = 3 ∧ cd = 2) ∧ f_X8_append x1 mT imdP indP imdS imdB imdO imdR imdA indA mP nP mS mB mO mR mA nA mH hs = some (k', r', mT') ∧ f_X9_append x1 mM nM = some (rM, mM') ∧ mM' 8 0 = cd ∧ (k' = 0 → r' = rM) ∧ LI mT' mP nP mS mB mO mR mA nA mH hs mM' nM := by
  obtain ⟨v, c, H, n, t, h, R, hH, hM, hT, hm⟩ := hI
  obtain ⟨a, a0, a1, ea⟩ := z_ex x1
  subst ea
  obtain ⟨k, cd, r, n2, t2, hk, e8, e9⟩ := u_append (mT := mT) (imdP := imdP) (indP := indP) (imdS := imdS) (imdB := imdB) (imdO := imdO) (imdR := imdR) (imdA := imdA) (indA := indA) (mP := mP) (nP := nP) (mS := mS) (mB := mB) (mO := mO) (mR := mR) (mA := mA) (nA := nA) (mH := mH) (hs := hs) (mM := mM) (nM := nM) a0 a1 hT hm hM
  obtain ⟨⟨k0, r0, mT'⟩, e8, q1, q2, q3⟩ := e8
  obtain ⟨⟨r9, mM'⟩, e9, s1, s2, s3, s4⟩ := e9
  dsimp only at q1 q2 q3 s1 s2 s3 s4
  subst q1
  refine ⟨k0, r0, r9, zI cd, mT', mM', ?_, e8, e9, s1, fun h0 => (q2 h0).trans (s2 h0).symm, v, c, H, n2, t2, h, R, hH, s4, q3, s3⟩
  rcases hk with ⟨rfl, rfl⟩ | ⟨rfl, rfl⟩ | ⟨rfl, rfl⟩ <;> decide
theorem g_clear {mT : Mem} {mP : Mem} {nP : MemL} {mS : Mem} {mB : Mem} {mO : Mem} {mR : Mem} {mA : Mem} {nA : MemL} {mH : Mem} {hs : (Nat → PSt)} {mM : Mem} {nM : MemL} {imdP : Mem} {indP : MemL} {imdS : Mem} {imdB : Mem} {imdO : Mem} {imdR : Mem} {imdA : Mem} {indA : MemL} (hI : LI mT mP nP mS mB mO mR mA nA mH hs mM nM) : ∃ (r' rM : Int32) (mT' : Mem) (mM' : Mem), f_X8_clear mT imdP indP imdS imdB imdO imdR imdA indA mP nP mS mB mO mR mA nA mH hs = some (r', mT') ∧ f_X9_clear mM nM = some (rM, mM') ∧ mM' 8 0 = 0 ∧ r' = rM ∧ LI mT' mP nP mS mB mO mR mA nA mH hs mM' nM := by
  obtain ⟨v, c, H, n, t, h, R, hH, hM, hT, hm⟩ := hI
  obtain ⟨e8, e9⟩ := u_clear (mT := mT) (imdP := imdP) (indP := indP) (imdS := imdS) (imdB := imdB) (imdO := imdO) (imdR := imdR) (imdA := imdA) (indA := indA) (mP := mP) (nP := nP) (mS := mS) (mB := mB) (mO := mO) (mR := mR) (mA := mA) (nA := nA) (mH := mH) (hs := hs) (mM := mM) (nM := nM) hT hm hM
  obtain ⟨⟨r0, mT'⟩, e8, q1, q2⟩ := e8
  obtain ⟨⟨r9, mM'⟩, e9, s1, s2, s3, s4⟩ := e9
  dsimp only at q1 q2 s1 s2 s3 s4
  exact ⟨r0, r9, mT', mM', e8, e9, s1, q1.trans (s2 rfl).symm, v, c, H, _, t, h, R, hH, s4, q2, s3⟩
theorem g_errorPosition {mT : Mem} {mP : Mem} {nP : MemL} {mS : Mem} {mB : Mem} {mO : Mem} {mR : Mem} {mA : Mem} {nA : MemL} {mH : Mem} {hs : (Nat → PSt)} {mM : Mem} {nM : MemL} {imdP : Mem} {indP : MemL} {imdS : Mem} {imdB : Mem} {imdO : Mem} {imdR : Mem} {imdA : Mem} {indA : MemL} (hI : LI mT mP nP mS mB mO mR mA nA mH hs mM nM) : ∃ (r' rM : Int32) (mT' : Mem) (mM' : Mem), f_X8_errorPosition mT imdP indP imdS imdB imdO imdR imdA indA mP nP mS mB mO mR mA nA mH hs = some (r', mT') ∧ f_X9_errorPosition mM nM = some (rM, mM') ∧ mM' 8 0 = 0 ∧ r' = rM ∧ LI mT' mP nP mS mB mO mR mA nA mH hs mM' nM := by
  obtain ⟨v, c, H, n, t, h, R, hH, hM, hT, hm⟩ := hI
  obtain ⟨r, e8, e9⟩ := u_errorPosition (mT := mT) (imdP := imdP) (indP := indP) (imdS := imdS) (imdB := imdB) (imdO := imdO) (imdR := imdR) (imdA := imdA) (indA := indA) (mP := mP) (nP := nP) (mS := mS) (mB := mB) (mO := mO) (mR := mR) (mA := mA) (nA := nA) (mH := mH) (hs := hs) (mM := mM) (nM := nM) hT hm hM
  obtain ⟨⟨r0, mT'⟩, e8, q1, q2⟩ := e8
  obtain ⟨⟨r9, mM'⟩, e9, s1, s2, s3, s4⟩ := e9
  dsimp only at q1 q2 s1 s2 s3 s4
  exact ⟨r0, r9, mT', mM', e8, e9, s1, q1.trans (s2 rfl).symm, v, c, H, _, t, h, R, hH, s4, q2, s3⟩
theorem g_errorKind {mT : Mem} {mP : Mem} {nP : MemL} {mS : Mem} {mB : Mem} {mO : Mem} {mR : Mem} {mA : Mem} {nA : MemL} {mH : Mem} {hs : (Nat → PSt)} {mM : Mem} {nM : MemL} {imdP : Mem} {indP : MemL} {imdS : Mem} {imdB : Mem} {imdO : Mem} {imdR : Mem} {imdA : Mem} {indA : MemL} (hI : LI mT mP nP mS mB mO mR mA nA mH hs mM nM) : ∃ (r' rM : Int32) (mT' : Mem) (mM' : Mem), f_X8_errorKind mT imdP indP imdS imdB imdO imdR imdA indA mP nP mS mB mO mR mA nA mH hs = some (r', mT') ∧ f_X9_errorKind mM nM = some (rM, mM') ∧ mM' 8 0 = 0 ∧ r' = rM ∧ LI mT' mP nP mS mB mO mR mA nA mH hs mM' nM := by
  obtain ⟨v, c, H, n, t, h, R, hH, hM, hT, hm⟩ := hI
  obtain ⟨r, e8, e9⟩ := u_errorKind (mT := mT) (imdP := imdP) (indP := indP) (imdS := imdS) (imdB := imdB) (imdO := imdO) (imdR := imdR) (imdA := imdA) (indA := indA) (mP := mP) (nP := nP) (mS := mS) (mB := mB) (mO := mO) (mR := mR) (mA := mA) (nA := nA) (mH := mH) (hs := hs) (mM := mM) (nM := nM) hT hm hM
  obtain ⟨⟨r0, mT'⟩, e8, q1, q2⟩ := e8
  obtain ⟨⟨r9, mM'⟩, e9, s1, s2, s3, s4⟩ := e9
  dsimp only at q1 q2 s1 s2 s3 s4
  exact ⟨r0, r9, mT', mM', e8, e9, s1, q1.trans (s2 rfl).symm, v, c, H, _, t, h, R, hH, s4, q2, s3⟩
theorem g_execute {mT : Mem} {mP : Mem} {nP : MemL} {mS : Mem} {mB : Mem} {mO : Mem} {mR : Mem} {mA : Mem} {nA : MemL} {mH : Mem} {hs : (Nat → PSt)} {mM : Mem} {nM : MemL} {imdP : Mem} {indP : MemL} {imdS : Mem} {imdB : Mem} {imdO : Mem} {imdR : Mem} {imdA : Mem} {indA : MemL} (hI : LI mT mP nP mS mB mO mR mA nA mH hs mM nM) : ∃ (k' : Nat) (r' rM : Int32) (cd : Int32) (mT' : Mem) (mP' : Mem) (nP' : MemL) (mS' : Mem) (mB' : Mem) (mO' : Mem) (mR' : Mem) (mA' : Mem) (nA' : MemL) (mH' : Mem) (hs' : (Nat → PSt)) (mM' : Mem) (nM' : MemL), (k' = 0 ∧ cd = 0 ∨ k' = 3 ∧ cd = 1) ∧ f_X8_execute mT imdP indP imdS imdB imdO imdR imdA indA mP nP mS mB mO mR mA nA mH hs = some (k', r', mT', mP', nP', mS', mB', mO', mR', mA', nA', mH', hs') ∧ f_X9_execute mM nM = some (rM, mM', nM') ∧ mM' 8 0 = cd ∧ (k' = 0 → r' = rM) ∧ LI mT' mP' nP' mS' mB' mO' mR' mA' nA' mH' hs' mM' nM' := by
  obtain ⟨v, c, H, n, t, h, R, hH, hM, hT, hm⟩ := hI
  obtain ⟨k, cd, r, v2, c2, H2, n2, h2, hk, e8, e9⟩ := u_execute (mT := mT) (imdP := imdP) (indP := indP) (imdS := imdS) (imdB := imdB) (imdO := imdO) (imdR := imdR) (imdA := imdA) (indA := indA) (mP := mP) (nP := nP) (mS := mS) (mB := mB) (mO := mO) (mR := mR) (mA := mA) (nA := nA) (mH := mH) (hs := hs) (mM := mM) (nM := nM) h R hH hM hT hm
  obtain ⟨⟨k0, r0, mT', mP', nP', mS', mB', mO', mR', mA', nA', mH', hs'⟩, e8, q1, q2, q3, q4, q5⟩ := e8
  obtain ⟨⟨r9, mM', nM'⟩, e9, s1, s2, s3, s4⟩ := e9
  dsimp only at q1 q2 q3 q4 q5 s1 s2 s3 s4
  subst q1
  refine ⟨k0, r0, r9, zI cd, mT', mP', nP', mS', mB', mO', mR', mA', nA', mH', hs', mM', nM', ?_, e8, e9, s1, fun h0 => (q2 h0).trans (s2 h0).symm, v2, c2, H2, n2, t, h2, q4, q5, s4, q3, s3⟩
  rcases hk with ⟨rfl, rfl⟩ | ⟨rfl, rfl⟩ <;> decide
