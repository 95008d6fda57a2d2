/-! more of the questions -/
def KA (k : Nat) (cd : Int) : Prop := k = 0 ∧ cd = 0 ∨ k = 2 ∧ cd = 1
theorem s_valueRaw {n : Nat} {row : Nat → Int32} {q : Int} (h0 : 0 ≤ q) (h1 : q < n) (hn : (n : Int) < 2147483648) : f_X8_valueAt (zI q) n row = some (row (zI q).toNatClampNeg) := by
  have := s_valueIn (n := n) (row := row) (g := fun k => (row (zI k).toNatClampNeg).toInt) (fun k k0 k1 => z_of _) hn h0 h1
  rw [this]
  exact congrArg some (z_of _).symm
theorem s_kept {wr : Int} {mR : Mem} {v : VI} (h : RR wr mR v) (hw : wr < 1000000) : f_X5_kept mR = some (zI (v 1885)) ∧ v 1885 ≤ wr := by
  obtain ⟨h1, h2, h3, -⟩ := h
  simp (disch := omega) only [f_X5_kept, z_c16, z_add, z_sub, z_neg, y_neg, z_mul, z_div, z_l, y_i, y_add, y_sub, y_mul, y_div, z_lt, z_le, z_eq, y_c1, y_c2, y_c3, y_c4, y_c5, z_gi, bd1_s, bd2_s, mul30, z_ofNat, lt_eq, h1]
  by_cases q : wr < 16
  · rw [if_pos q] at h3
    rw [if_neg (by omega), h3]
    exact ⟨rfl, by omega⟩
  · rw [if_neg q] at h3
    rw [if_pos (by omega), h3]
    exact ⟨rfl, by omega⟩
theorem melted_eq {v : VI} (h : Pl v) : meltedF v = v 1878 := by
  have hI := h.2.2.2.2.1
  have h8 := h.2.2.2.2.2.2.2.1
  have z : ∀ s : Int, 0 ≤ s → s < 5 → v 1880 ≤ s → v (52 + s) = 0 := fun s a b q => ((hI.2.2.1 s a b).2.2.2.2.2 q).2
  have z0 := z 0 (by omega) (by omega)
  have z1 := z 1 (by omega) (by omega)
  have z2 := z 2 (by omega) (by omega)
  have z3 := z 3 (by omega) (by omega)
  have z4 := z 4 (by omega) (by omega)
  simp only [Int.reduceAdd] at z0 z1 z2 z3 z4
  have hb := hI.1
  unfold meltedF
  have : v 1880 = 0 ∨ v 1880 = 1 ∨ v 1880 = 2 ∨ v 1880 = 3 ∨ v 1880 = 4 ∨ v 1880 = 5 := by omega
  rcases this with e | e | e | e | e | e
  all_goals (rw [e]; simp only [Int.toNat_zero, Int.toNat_one, Int.reduceToNat, sumR, Int.reduceAdd, Int.add_zero]; omega)
section
variable {v : VI} {c : Int} {H : Int → VI} {imT imdP : Mem} {indP : MemL} {imdS imdB imdO imdR imdA : Mem} {indA : MemL} {mP : Mem} {nP : MemL} {mS mB mO mR mA : Mem} {nA : MemL} {mH : Mem} {hs : Nat → PSt} {mM : Mem} {nM : MemL}
theorem q_orderProperty (h : WF v c H) (R : RW mP nP mS mB mO mR mA nA v) (hM : MS v c H mM nM) {a : Int} (a0 : -2147483648 ≤ a) (a1 : a < 2147483648) {x : Int} (x0 : -2147483648 ≤ x) (x1 : x < 2147483648) :
    ∃ (k : Nat) (cd r : Int) (r0 : Int32), KC k cd ∧ f_X8_orderProperty (zI a) (zI x) imT imdP indP imdS imdB imdO imdR imdA indA mP nP mS mB mO mR mA nA mH hs = some (k, r0) ∧ (k = 0 → r0 = zI r) ∧ Ev (f_X9_orderProperty (zI a) (zI x) mM nM) (QO cd r k mM) := by
  obtain ⟨wr, w0, w1, R⟩ := R
  have hI := h.1.1.2.2.2.2.1
  have hIB := h.1.1.2.1
  have hIO := h.1.1.2.2.1
  have hIA := h.1.1.2.2.2.1
  have hIP := h.1.1.1
  have hT := h.1.2
  have hT0 := hI.2.1
  have h6 := hM.1
  obtain ⟨sv, tv, hMR, -⟩ := (hM.w8 (fun _ => zI 0)).2
  have e1 := s_hasO R.2.2.2.1 hIO.1 a0 a1
  have f1 := m_isOrder (mM := wrI mM 8 (fun _ => zI 0)) hMR hIO a0 a1
  have e2 := s_within (a := x) (b := 0) (c := 6) x0 x1 (by omega) (by omega) (by omega) (by omega)
  by_cases c1 : 0 ≤ a ∧ a < v 1882
  · rw [if_pos c1] at e1 f1
    have hb := hIO.1
    have rs0 := s_valueIn (a := a) R.2.2.2.1.2.2.1 (by decide) (by omega) (by show a < (200 : Int); omega)
    have rs1 := s_valueIn (a := a) R.2.2.2.1.2.2.2.1 (by decide) (by omega) (by show a < (200 : Int); omega)
    have rs2 := s_valueIn (a := a) R.2.2.2.1.2.2.2.2.1 (by decide) (by omega) (by show a < (200 : Int); omega)
    have rs3 := s_valueIn (a := a) R.2.2.2.1.2.2.2.2.2.1 (by decide) (by omega) (by show a < (200 : Int); omega)
    have rs4 := s_valueIn (a := a) R.2.2.2.1.2.2.2.2.2.2.1 (by decide) (by omega) (by show a < (200 : Int); omega)
    have rs5 := s_valueIn (a := a) R.2.2.2.1.2.2.2.2.2.2.2.1 (by decide) (by omega) (by show a < (200 : Int); omega)
    have so := s_isOpen R.2.2.2.1 hIO a0 a1
    have hp2 : mP 0 (zI 2).toNatClampNeg = zI (v 2) := R.1.1 2 (by omega) (by omega)
    have sb := s_openBefore R.2.2.1 hIB R.2.2.2.1 hIO hIP.2.2.1 c1.1 c1.2
    have mb := m_ahead (mM := wrI mM 8 (fun _ => zI 0)) hMR hIB hIO hIP.2.2.1 c1.1 c1.2
    have hst := (hIO.2.2 a c1.1 (by omega)).2.2.2.1
    by_cases c2 : 0 ≤ x ∧ x ≤ 6
    · rw [if_pos c2] at e2
      have hx : x = 0 ∨ x = 1 ∨ x = 2 ∨ x = 3 ∨ x = 4 ∨ x = 5 ∨ x = 6 := by omega
      rcases hx with rfl | rfl | rfl | rfl | rfl | rfl | rfl
      · simp (disch := omega) only [f_X8_orderProperty, f_X9_orderProperty, f_X3_property, f_X4_ordersBefore, z_c0, z_c1, z_c2, z_c3, z_c4, z_c5, z_c6, z_c531, z_c731, z_c931, z_c1131, z_c1331, z_c1531, y_c0_, z_add, z_sub, z_neg, y_neg, z_mul, z_div, z_l, y_i, y_add, y_sub, y_mul, y_div, z_lt, z_le, z_eq, y_c1, y_c2, y_c3, y_c4, y_c5, z_gi, bd1_s, bd2_s, mul30, z_ofNat, e1, f1, e2, nIq_1, nAq_1, hMR.rd, rs0, eq_self, if_true, if_false, lt_eq, iz1, nz1, nz2, nz3, il0, il1, il2, il3, Int.reduceEq, Int.reduceLE, Int.reduceAdd]
        exact ⟨0, 0, _, _, Or.inl ⟨rfl, rfl⟩, rfl, fun _ => rfl, Ev_some (q_ok mM _)⟩
      · simp (disch := omega) only [f_X8_orderProperty, f_X9_orderProperty, f_X3_property, f_X4_ordersBefore, z_c0, z_c1, z_c2, z_c3, z_c4, z_c5, z_c6, z_c531, z_c731, z_c931, z_c1131, z_c1331, z_c1531, y_c0_, z_add, z_sub, z_neg, y_neg, z_mul, z_div, z_l, y_i, y_add, y_sub, y_mul, y_div, z_lt, z_le, z_eq, y_c1, y_c2, y_c3, y_c4, y_c5, z_gi, bd1_s, bd2_s, mul30, z_ofNat, e1, f1, e2, nIq_1, nAq_1, hMR.rd, rs1, eq_self, if_true, if_false, lt_eq, iz1, nz1, nz2, nz3, il0, il1, il2, il3, Int.reduceEq, Int.reduceLE, Int.reduceAdd]
        exact ⟨0, 0, _, _, Or.inl ⟨rfl, rfl⟩, rfl, fun _ => rfl, Ev_some (q_ok mM _)⟩
      · simp (disch := omega) only [f_X8_orderProperty, f_X9_orderProperty, f_X3_property, f_X4_ordersBefore, z_c0, z_c1, z_c2, z_c3, z_c4, z_c5, z_c6, z_c531, z_c731, z_c931, z_c1131, z_c1331, z_c1531, y_c0_, z_add, z_sub, z_neg, y_neg, z_mul, z_div, z_l, y_i, y_add, y_sub, y_mul, y_div, z_lt, z_le, z_eq, y_c1, y_c2, y_c3, y_c4, y_c5, z_gi, bd1_s, bd2_s, mul30, z_ofNat, e1, f1, e2, nIq_1, nAq_1, hMR.rd, rs2, eq_self, if_true, if_false, lt_eq, iz1, nz1, nz2, nz3, il0, il1, il2, il3, Int.reduceEq, Int.reduceLE, Int.reduceAdd]
        exact ⟨0, 0, _, _, Or.inl ⟨rfl, rfl⟩, rfl, fun _ => rfl, Ev_some (q_ok mM _)⟩
      · simp (disch := omega) only [f_X8_orderProperty, f_X9_orderProperty, f_X3_property, f_X4_ordersBefore, z_c0, z_c1, z_c2, z_c3, z_c4, z_c5, z_c6, z_c531, z_c731, z_c931, z_c1131, z_c1331, z_c1531, y_c0_, z_add, z_sub, z_neg, y_neg, z_mul, z_div, z_l, y_i, y_add, y_sub, y_mul, y_div, z_lt, z_le, z_eq, y_c1, y_c2, y_c3, y_c4, y_c5, z_gi, bd1_s, bd2_s, mul30, z_ofNat, e1, f1, e2, nIq_1, nAq_1, hMR.rd, rs3, eq_self, if_true, if_false, lt_eq, iz1, nz1, nz2, nz3, il0, il1, il2, il3, Int.reduceEq, Int.reduceLE, Int.reduceAdd]
        exact ⟨0, 0, _, _, Or.inl ⟨rfl, rfl⟩, rfl, fun _ => rfl, Ev_some (q_ok mM _)⟩
      · simp (disch := omega) only [f_X8_orderProperty, f_X9_orderProperty, f_X3_property, f_X4_ordersBefore, z_c0, z_c1, z_c2, z_c3, z_c4, z_c5, z_c6, z_c531, z_c731, z_c931, z_c1131, z_c1331, z_c1531, y_c0_, z_add, z_sub, z_neg, y_neg, z_mul, z_div, z_l, y_i, y_add, y_sub, y_mul, y_div, z_lt, z_le, z_eq, y_c1, y_c2, y_c3, y_c4, y_c5, z_gi, bd1_s, bd2_s, mul30, z_ofNat, e1, f1, e2, nIq_1, nAq_1, hMR.rd, rs4, eq_self, if_true, if_false, lt_eq, iz1, nz1, nz2, nz3, il0, il1, il2, il3, Int.reduceEq, Int.reduceLE, Int.reduceAdd]
        exact ⟨0, 0, _, _, Or.inl ⟨rfl, rfl⟩, rfl, fun _ => rfl, Ev_some (q_ok mM _)⟩
      · simp (disch := omega) only [f_X8_orderProperty, f_X9_orderProperty, f_X3_property, f_X4_ordersBefore, z_c0, z_c1, z_c2, z_c3, z_c4, z_c5, z_c6, z_c531, z_c731, z_c931, z_c1131, z_c1331, z_c1531, y_c0_, z_add, z_sub, z_neg, y_neg, z_mul, z_div, z_l, y_i, y_add, y_sub, y_mul, y_div, z_lt, z_le, z_eq, y_c1, y_c2, y_c3, y_c4, y_c5, z_gi, bd1_s, bd2_s, mul30, z_ofNat, e1, f1, e2, nIq_1, nAq_1, hMR.rd, rs5, eq_self, if_true, if_false, lt_eq, iz1, nz1, nz2, nz3, il0, il1, il2, il3, Int.reduceEq, Int.reduceLE, Int.reduceAdd]
        exact ⟨0, 0, _, _, Or.inl ⟨rfl, rfl⟩, rfl, fun _ => rfl, Ev_some (q_ok mM _)⟩
      · by_cases c3 : v (1531 + a) = 0
        · rw [if_pos ⟨c1, c3⟩] at so
          simp (disch := omega) only [f_X8_orderProperty, f_X9_orderProperty, f_X3_property, f_X4_ordersBefore, z_c0, z_c1, z_c2, z_c3, z_c4, z_c5, z_c6, z_c531, z_c731, z_c931, z_c1131, z_c1331, z_c1531, y_c0_, z_add, z_sub, z_neg, y_neg, z_mul, z_div, z_l, y_i, y_add, y_sub, y_mul, y_div, z_lt, z_le, z_eq, y_c1, y_c2, y_c3, y_c4, y_c5, z_gi, bd1_s, bd2_s, mul30, z_ofNat, e1, f1, e2, nIq_1, nAq_1, hMR.rd, so, hp2, sb, mb, c3, eq_self, if_true, if_false, lt_eq, iz1, nz1, nz2, nz3, il0, il1, il2, il3, Int.reduceEq, Int.reduceLE, Int.reduceAdd]
          exact ⟨0, 0, _, _, Or.inl ⟨rfl, rfl⟩, rfl, fun _ => rfl, Ev_some (q_ok mM _)⟩
        · rw [if_neg (fun q => c3 q.2)] at so
          have c4 : (v (1531 + a) = 0) = False := eq_false c3
          simp (disch := omega) only [f_X8_orderProperty, f_X9_orderProperty, f_X3_property, f_X4_ordersBefore, z_c0, z_c1, z_c2, z_c3, z_c4, z_c5, z_c6, z_c531, z_c731, z_c931, z_c1131, z_c1331, z_c1531, y_c0_, z_add, z_sub, z_neg, y_neg, z_mul, z_div, z_l, y_i, y_add, y_sub, y_mul, y_div, z_lt, z_le, z_eq, y_c1, y_c2, y_c3, y_c4, y_c5, z_gi, bd1_s, bd2_s, mul30, z_ofNat, e1, f1, e2, nIq_1, nAq_1, hMR.rd, so, c4, eq_self, if_true, if_false, lt_eq, iz1, nz1, nz2, nz3, il0, il1, il2, il3, Int.reduceEq, Int.reduceLE, Int.reduceAdd]
          exact ⟨0, 0, _, _, Or.inl ⟨rfl, rfl⟩, rfl, fun _ => rfl, Ev_some (q_ok mM _)⟩
    · rw [if_neg c2] at e2
      have n0 : (x = 0) = False := eq_false (by omega)
      have n1 : (x = 1) = False := eq_false (by omega)
      have n2 : (x = 2) = False := eq_false (by omega)
      have n3 : (x = 3) = False := eq_false (by omega)
      have n4 : (x = 4) = False := eq_false (by omega)
      have n5 : (x = 5) = False := eq_false (by omega)
      have n6 : (x = 6) = False := eq_false (by omega)
      simp (disch := omega) only [f_X8_orderProperty, f_X9_orderProperty, f_X3_property, f_X4_ordersBefore, z_c0, z_c1, z_c2, z_c3, z_c4, z_c5, z_c6, z_c531, z_c731, z_c931, z_c1131, z_c1331, z_c1531, y_c0_, z_add, z_sub, z_neg, y_neg, z_mul, z_div, z_l, y_i, y_add, y_sub, y_mul, y_div, z_lt, z_le, z_eq, y_c1, y_c2, y_c3, y_c4, y_c5, z_gi, bd1_s, bd2_s, mul30, z_ofNat, e1, f1, e2, nIq_1, nAq_0, hMR.rd, n0, n1, n2, n3, n4, n5, n6, eq_self, if_true, if_false, lt_eq, iz1, nz1, nz2, nz3, il0, il1, il2, il3, Int.reduceEq, Int.reduceLE, Int.reduceAdd]
      exact ⟨2, 2, 0, _, Or.inr (Or.inr ⟨rfl, rfl⟩), rfl, fun q => absurd q (by decide), q_fail (by decide) _⟩
  · rw [if_neg c1] at e1 f1
    simp (config := { maxSteps := 2000000 }) (disch := omega) only [f_X8_orderProperty, f_X9_orderProperty, f_X3_property, f_X4_ordersBefore, z_c0, z_c1, z_c2, z_c3, z_c4, z_c5, z_c6, z_c531, z_c731, z_c931, z_c1131, z_c1331, z_c1531, y_c0_, z_add, z_sub, z_neg, y_neg, z_mul, z_div, z_l, y_i, y_add, y_sub, y_mul, y_div, z_lt, z_le, z_eq, y_c1, y_c2, y_c3, y_c4, y_c5, z_gi, bd1_s, bd2_s, mul30, z_ofNat, e1, f1, nIq_0, hMR.rd, eq_self, if_true, if_false, lt_eq, iz1, nz1, nz2, nz3, il0, il1, il2, il3, Int.reduceEq, Int.reduceLE, Int.reduceAdd]
    exact ⟨1, 1, 0, _, Or.inr (Or.inl ⟨rfl, rfl⟩), rfl, fun q => absurd q (by decide), q_fail (by decide) _⟩
theorem q_receipt (h : WF v c H) (R : RW mP nP mS mB mO mR mA nA v) (hM : MS v c H mM nM) {a : Int} (a0 : -2147483648 ≤ a) (a1 : a < 2147483648) {x : Int} (x0 : -2147483648 ≤ x) (x1 : x < 2147483648) :
    ∃ (k : Nat) (cd r : Int) (r0 : Int32), KC k cd ∧ f_X8_receipt (zI a) (zI x) imT imdP indP imdS imdB imdO imdR imdA indA mP nP mS mB mO mR mA nA mH hs = some (k, r0) ∧ (k = 0 → r0 = zI r) ∧ Ev (f_X9_receipt (zI a) (zI x) mM nM) (QO cd r k mM) := by
  obtain ⟨wr, w0, w1, R⟩ := R
  have hI := h.1.1.2.2.2.2.1
  have hIB := h.1.1.2.1
  have hIO := h.1.1.2.2.1
  have hIA := h.1.1.2.2.2.1
  have hIP := h.1.1.1
  have hT := h.1.2
  have hT0 := hI.2.1
  have h6 := hM.1
  obtain ⟨sv, tv, hMR, -⟩ := (hM.w8 (fun _ => zI 0)).2
  have hk := (s_kept R.2.2.2.2.1 (by omega)).1
  have hkw := (s_kept R.2.2.2.2.1 (by omega)).2
  have hk16 := h.1.1.2.2.2.2.2.2.1
  have h0 := R.2.2.2.2.1.1
  have e1 := s_within (a := a) (b := 0) (c := v 1885 - 1) a0 a1 (by omega) (by omega) (by omega) (by omega)
  have f1 := m_in (a := a) (b := 0) (c := v 1885 - 1) (by omega) (by omega) (by omega) (by omega) (by omega) (by omega)
  have e2 := s_within (a := x) (b := 0) (c := 4) x0 x1 (by omega) (by omega) (by omega) (by omega)
  by_cases c1 : 0 ≤ a ∧ a ≤ v 1885 - 1
  · rw [if_pos c1] at e1 f1
    obtain ⟨g1, g2, g3, g4, g5⟩ := R.2.2.2.2.1.2.2.2.2 a c1.1 (by omega)
    rw [show (wr - 1 - a) % 16 = wr - 1 - a - (wr - 1 - a) / 16 * 16 by omega] at g1 g2 g3 g4 g5
    have rs0 := s_valueRaw (n := 16) (row := mR 2) (q := wr - 1 - a - (wr - 1 - a) / 16 * 16) (by omega) (by omega) (by decide)
    have rs1 := s_valueRaw (n := 16) (row := mR 3) (q := wr - 1 - a - (wr - 1 - a) / 16 * 16) (by omega) (by omega) (by decide)
    have rs2 := s_valueRaw (n := 16) (row := mR 4) (q := wr - 1 - a - (wr - 1 - a) / 16 * 16) (by omega) (by omega) (by decide)
    have rs3 := s_valueRaw (n := 16) (row := mR 5) (q := wr - 1 - a - (wr - 1 - a) / 16 * 16) (by omega) (by omega) (by decide)
    have rs4 := s_valueRaw (n := 16) (row := mR 6) (q := wr - 1 - a - (wr - 1 - a) / 16 * 16) (by omega) (by omega) (by decide)
    by_cases c2 : 0 ≤ x ∧ x ≤ 4
    · rw [if_pos c2] at e2
      have hx : x = 0 ∨ x = 1 ∨ x = 2 ∨ x = 3 ∨ x = 4 := by omega
      rcases hx with rfl | rfl | rfl | rfl | rfl
      · simp (disch := omega) only [f_X8_receipt, f_X9_receipt, f_X5_property, z_c0, z_c1, z_c2, z_c3, z_c4, z_c16, z_c1731, z_c1747, z_c1763, z_c1779, z_c1795, z_c1885, y_c0_, y_c1_, z_add, z_sub, z_neg, y_neg, z_mul, z_div, z_l, y_i, y_add, y_sub, y_mul, y_div, z_lt, z_le, z_eq, y_c1, y_c2, y_c3, y_c4, y_c5, z_gi, bd1_s, bd2_s, mul30, z_ofNat, hk, h0, e1, f1, e2, nIq_1, nAq_1, hMR.rd, rs0, g1, eq_self, if_true, if_false, lt_eq, iz1, nz1, nz2, nz3, il0, il1, il2, il3, Int.reduceEq, Int.reduceLE, Int.reduceAdd]
        exact ⟨0, 0, _, _, Or.inl ⟨rfl, rfl⟩, rfl, fun _ => rfl, Ev_some (q_ok mM _)⟩
      · simp (disch := omega) only [f_X8_receipt, f_X9_receipt, f_X5_property, z_c0, z_c1, z_c2, z_c3, z_c4, z_c16, z_c1731, z_c1747, z_c1763, z_c1779, z_c1795, z_c1885, y_c0_, y_c1_, z_add, z_sub, z_neg, y_neg, z_mul, z_div, z_l, y_i, y_add, y_sub, y_mul, y_div, z_lt, z_le, z_eq, y_c1, y_c2, y_c3, y_c4, y_c5, z_gi, bd1_s, bd2_s, mul30, z_ofNat, hk, h0, e1, f1, e2, nIq_1, nAq_1, hMR.rd, rs1, g2, eq_self, if_true, if_false, lt_eq, iz1, nz1, nz2, nz3, il0, il1, il2, il3, Int.reduceEq, Int.reduceLE, Int.reduceAdd]
        exact ⟨0, 0, _, _, Or.inl ⟨rfl, rfl⟩, rfl, fun _ => rfl, Ev_some (q_ok mM _)⟩
      · simp (disch := omega) only [f_X8_receipt, f_X9_receipt, f_X5_property, z_c0, z_c1, z_c2, z_c3, z_c4, z_c16, z_c1731, z_c1747, z_c1763, z_c1779, z_c1795, z_c1885, y_c0_, y_c1_, z_add, z_sub, z_neg, y_neg, z_mul, z_div, z_l, y_i, y_add, y_sub, y_mul, y_div, z_lt, z_le, z_eq, y_c1, y_c2, y_c3, y_c4, y_c5, z_gi, bd1_s, bd2_s, mul30, z_ofNat, hk, h0, e1, f1, e2, nIq_1, nAq_1, hMR.rd, rs2, g3, eq_self, if_true, if_false, lt_eq, iz1, nz1, nz2, nz3, il0, il1, il2, il3, Int.reduceEq, Int.reduceLE, Int.reduceAdd]
        exact ⟨0, 0, _, _, Or.inl ⟨rfl, rfl⟩, rfl, fun _ => rfl, Ev_some (q_ok mM _)⟩
      · simp (disch := omega) only [f_X8_receipt, f_X9_receipt, f_X5_property, z_c0, z_c1, z_c2, z_c3, z_c4, z_c16, z_c1731, z_c1747, z_c1763, z_c1779, z_c1795, z_c1885, y_c0_, y_c1_, z_add, z_sub, z_neg, y_neg, z_mul, z_div, z_l, y_i, y_add, y_sub, y_mul, y_div, z_lt, z_le, z_eq, y_c1, y_c2, y_c3, y_c4, y_c5, z_gi, bd1_s, bd2_s, mul30, z_ofNat, hk, h0, e1, f1, e2, nIq_1, nAq_1, hMR.rd, rs3, g4, eq_self, if_true, if_false, lt_eq, iz1, nz1, nz2, nz3, il0, il1, il2, il3, Int.reduceEq, Int.reduceLE, Int.reduceAdd]
        exact ⟨0, 0, _, _, Or.inl ⟨rfl, rfl⟩, rfl, fun _ => rfl, Ev_some (q_ok mM _)⟩
      · simp (disch := omega) only [f_X8_receipt, f_X9_receipt, f_X5_property, z_c0, z_c1, z_c2, z_c3, z_c4, z_c16, z_c1731, z_c1747, z_c1763, z_c1779, z_c1795, z_c1885, y_c0_, y_c1_, z_add, z_sub, z_neg, y_neg, z_mul, z_div, z_l, y_i, y_add, y_sub, y_mul, y_div, z_lt, z_le, z_eq, y_c1, y_c2, y_c3, y_c4, y_c5, z_gi, bd1_s, bd2_s, mul30, z_ofNat, hk, h0, e1, f1, e2, nIq_1, nAq_1, hMR.rd, rs4, g5, eq_self, if_true, if_false, lt_eq, iz1, nz1, nz2, nz3, il0, il1, il2, il3, Int.reduceEq, Int.reduceLE, Int.reduceAdd]
        exact ⟨0, 0, _, _, Or.inl ⟨rfl, rfl⟩, rfl, fun _ => rfl, Ev_some (q_ok mM _)⟩
    · rw [if_neg c2] at e2
      have n0 : (x = 0) = False := eq_false (by omega)
      have n1 : (x = 1) = False := eq_false (by omega)
      have n2 : (x = 2) = False := eq_false (by omega)
      have n3 : (x = 3) = False := eq_false (by omega)
      have n4 : (x = 4) = False := eq_false (by omega)
      simp (disch := omega) only [f_X8_receipt, f_X9_receipt, f_X5_property, z_c0, z_c1, z_c2, z_c3, z_c4, z_c16, z_c1731, z_c1747, z_c1763, z_c1779, z_c1795, z_c1885, y_c0_, y_c1_, z_add, z_sub, z_neg, y_neg, z_mul, z_div, z_l, y_i, y_add, y_sub, y_mul, y_div, z_lt, z_le, z_eq, y_c1, y_c2, y_c3, y_c4, y_c5, z_gi, bd1_s, bd2_s, mul30, z_ofNat, hk, h0, e1, f1, e2, nIq_1, nAq_0, hMR.rd, n0, n1, n2, n3, n4, eq_self, if_true, if_false, lt_eq, iz1, nz1, nz2, nz3, il0, il1, il2, il3, Int.reduceEq, Int.reduceLE, Int.reduceAdd]
      exact ⟨2, 2, 0, _, Or.inr (Or.inr ⟨rfl, rfl⟩), rfl, fun q => absurd q (by decide), q_fail (by decide) _⟩
  · rw [if_neg c1] at e1 f1
    simp (config := { maxSteps := 2000000 }) (disch := omega) only [f_X8_receipt, f_X9_receipt, f_X5_property, z_c0, z_c1, z_c2, z_c3, z_c4, z_c16, z_c1731, z_c1747, z_c1763, z_c1779, z_c1795, z_c1885, y_c0_, y_c1_, z_add, z_sub, z_neg, y_neg, z_mul, z_div, z_l, y_i, y_add, y_sub, y_mul, y_div, z_lt, z_le, z_eq, y_c1, y_c2, y_c3, y_c4, y_c5, z_gi, bd1_s, bd2_s, mul30, z_ofNat, hk, h0, e1, f1, nIq_0, hMR.rd, eq_self, if_true, if_false, lt_eq, iz1, nz1, nz2, nz3, il0, il1, il2, il3, Int.reduceEq, Int.reduceLE, Int.reduceAdd]
    exact ⟨1, 1, 0, _, Or.inr (Or.inl ⟨rfl, rfl⟩), rfl, fun q => absurd q (by decide), q_fail (by decide) _⟩
theorem q_account (h : WF v c H) (R : RW mP nP mS mB mO mR mA nA v) (hM : MS v c H mM nM) {a : Int} (a0 : -2147483648 ≤ a) (a1 : a < 2147483648) {x : Int} (x0 : -2147483648 ≤ x) (x1 : x < 2147483648) :
    ∃ (k : Nat) (cd r : Int) (r0 : Int64), KC k cd ∧ f_X8_account (zI a) (zI x) imT imdP indP imdS imdB imdO imdR imdA indA mP nP mS mB mO mR mA nA mH hs = some (k, r0) ∧ (k = 0 → r0 = zL r) ∧ Ev (f_X9_account (zI a) (zI x) mM nM) (QOL cd r k mM) := by
  obtain ⟨wr, w0, w1, R⟩ := R
  have hI := h.1.1.2.2.2.2.1
  have hIB := h.1.1.2.1
  have hIO := h.1.1.2.2.1
  have hIA := h.1.1.2.2.2.1
  have hIP := h.1.1.1
  have hT := h.1.2
  have hT0 := hI.2.1
  have h6 := hM.1
  obtain ⟨sv, tv, hMR, -⟩ := (hM.w8 (fun _ => zI 0)).2
  have hb := hIA.1
  have h0 := R.2.2.2.2.2.1
  have e1 := s_within (a := a) (b := 0) (c := v 1886 - 1) a0 a1 (by omega) (by omega) (by omega) (by omega)
  have f1 := m_in (a := a) (b := 0) (c := v 1886 - 1) (by omega) (by omega) (by omega) (by omega) (by omega) (by omega)
  have e2 := s_within (a := x) (b := 0) (c := 3) x0 x1 (by omega) (by omega) (by omega) (by omega)
  by_cases c1 : 0 ≤ a ∧ a ≤ v 1886 - 1
  · rw [if_pos c1] at e1 f1
    have l0 : (a < 0) = False := eq_false (by omega)
    have l1 : (a < v 1886) = True := eq_true (by omega)
    have g1 := R.2.2.2.2.2.2.1 a c1.1 (by omega)
    have g2 := R.2.2.2.2.2.2.2.1 a c1.1 (by omega)
    have g3 := R.2.2.2.2.2.2.2.2.1 a c1.1 (by omega)
    have g4 := R.2.2.2.2.2.2.2.2.2 a c1.1 (by omega)
    have hia := hIA.2.1 a c1.1 (by omega)
    by_cases c2 : 0 ≤ x ∧ x ≤ 3
    · rw [if_pos c2] at e2
      have hx : x = 0 ∨ x = 1 ∨ x = 2 ∨ x = 3 := by omega
      rcases hx with rfl | rfl | rfl | rfl
      · simp (disch := omega) only [f_X8_account, f_X9_account, f_X0_property, z_c0, z_c1, z_c2, z_c3, z_c1811, z_c1827, z_c1843, z_c1859, z_c1886, y_c0_, y_c1_, z_add, z_sub, z_neg, y_neg, z_mul, z_div, z_l, y_i, y_add, y_sub, y_mul, y_div, z_lt, z_le, z_eq, y_c1, y_c2, y_c3, y_c4, y_c5, z_gi, bd1_s, bd2_s, mul30, z_ofNat, h0, e1, f1, e2, nIq_1, nAq_1, hMR.rd, l0, l1, g1, eq_self, if_true, if_false, lt_eq, iz1, nz1, nz2, nz3, il0, il1, il2, il3, Int.reduceEq, Int.reduceLE, Int.reduceAdd]
        exact ⟨0, 0, _, _, Or.inl ⟨rfl, rfl⟩, rfl, fun _ => rfl, Ev_some (q_okL mM _)⟩
      · simp (disch := omega) only [f_X8_account, f_X9_account, f_X0_property, z_c0, z_c1, z_c2, z_c3, z_c1811, z_c1827, z_c1843, z_c1859, z_c1886, y_c0_, y_c1_, z_add, z_sub, z_neg, y_neg, z_mul, z_div, z_l, y_i, y_add, y_sub, y_mul, y_div, z_lt, z_le, z_eq, y_c1, y_c2, y_c3, y_c4, y_c5, z_gi, bd1_s, bd2_s, mul30, z_ofNat, h0, e1, f1, e2, nIq_1, nAq_1, hMR.rd, l0, l1, g2, eq_self, if_true, if_false, lt_eq, iz1, nz1, nz2, nz3, il0, il1, il2, il3, Int.reduceEq, Int.reduceLE, Int.reduceAdd]
        exact ⟨0, 0, _, _, Or.inl ⟨rfl, rfl⟩, rfl, fun _ => rfl, Ev_some (q_okL mM _)⟩
      · simp (disch := omega) only [f_X8_account, f_X9_account, f_X0_property, z_c0, z_c1, z_c2, z_c3, z_c1811, z_c1827, z_c1843, z_c1859, z_c1886, y_c0_, y_c1_, z_add, z_sub, z_neg, y_neg, z_mul, z_div, z_l, y_i, y_add, y_sub, y_mul, y_div, z_lt, z_le, z_eq, y_c1, y_c2, y_c3, y_c4, y_c5, z_gi, bd1_s, bd2_s, mul30, z_ofNat, h0, e1, f1, e2, nIq_1, nAq_1, hMR.rd, l0, l1, g3, eq_self, if_true, if_false, lt_eq, iz1, nz1, nz2, nz3, il0, il1, il2, il3, Int.reduceEq, Int.reduceLE, Int.reduceAdd]
        exact ⟨0, 0, _, _, Or.inl ⟨rfl, rfl⟩, rfl, fun _ => rfl, Ev_some (q_okL mM _)⟩
      · simp (disch := omega) only [f_X8_account, f_X9_account, f_X0_property, z_c0, z_c1, z_c2, z_c3, z_c1811, z_c1827, z_c1843, z_c1859, z_c1886, y_c0_, y_c1_, z_add, z_sub, z_neg, y_neg, z_mul, z_div, z_l, y_i, y_add, y_sub, y_mul, y_div, z_lt, z_le, z_eq, y_c1, y_c2, y_c3, y_c4, y_c5, z_gi, bd1_s, bd2_s, mul30, z_ofNat, h0, e1, f1, e2, nIq_1, nAq_1, hMR.rd, l0, l1, g4, eq_self, if_true, if_false, lt_eq, iz1, nz1, nz2, nz3, il0, il1, il2, il3, Int.reduceEq, Int.reduceLE, Int.reduceAdd]
        exact ⟨0, 0, _, _, Or.inl ⟨rfl, rfl⟩, rfl, fun _ => rfl, Ev_some (q_okL mM _)⟩
    · rw [if_neg c2] at e2
      have n0 : (x = 0) = False := eq_false (by omega)
      have n1 : (x = 1) = False := eq_false (by omega)
      have n2 : (x = 2) = False := eq_false (by omega)
      have n3 : (x = 3) = False := eq_false (by omega)
      simp (disch := omega) only [f_X8_account, f_X9_account, f_X0_property, z_c0, z_c1, z_c2, z_c3, z_c1811, z_c1827, z_c1843, z_c1859, z_c1886, y_c0_, y_c1_, z_add, z_sub, z_neg, y_neg, z_mul, z_div, z_l, y_i, y_add, y_sub, y_mul, y_div, z_lt, z_le, z_eq, y_c1, y_c2, y_c3, y_c4, y_c5, z_gi, bd1_s, bd2_s, mul30, z_ofNat, h0, e1, f1, e2, nIq_1, nAq_0, hMR.rd, n0, n1, n2, n3, eq_self, if_true, if_false, lt_eq, iz1, nz1, nz2, nz3, il0, il1, il2, il3, Int.reduceEq, Int.reduceLE, Int.reduceAdd]
      exact ⟨2, 2, 0, _, Or.inr (Or.inr ⟨rfl, rfl⟩), rfl, fun q => absurd q (by decide), q_failL (by decide) _⟩
  · rw [if_neg c1] at e1 f1
    simp (config := { maxSteps := 2000000 }) (disch := omega) only [f_X8_account, f_X9_account, f_X0_property, z_c0, z_c1, z_c2, z_c3, z_c1811, z_c1827, z_c1843, z_c1859, z_c1886, y_c0_, y_c1_, z_add, z_sub, z_neg, y_neg, z_mul, z_div, z_l, y_i, y_add, y_sub, y_mul, y_div, z_lt, z_le, z_eq, y_c1, y_c2, y_c3, y_c4, y_c5, z_gi, bd1_s, bd2_s, mul30, z_ofNat, h0, e1, f1, nIq_0, hMR.rd, eq_self, if_true, if_false, lt_eq, iz1, nz1, nz2, nz3, il0, il1, il2, il3, Int.reduceEq, Int.reduceLE, Int.reduceAdd]
    exact ⟨1, 1, 0, _, Or.inr (Or.inl ⟨rfl, rfl⟩), rfl, fun q => absurd q (by decide), q_failL (by decide) _⟩
theorem q_findAccount (h : WF v c H) (R : RW mP nP mS mB mO mR mA nA v) (hM : MS v c H mM nM) {a : Int} (a0 : -2147483648 ≤ a) (a1 : a < 2147483648) {x : Int} (x0 : -2147483648 ≤ x) (x1 : x < 2147483648) :
    ∃ (k : Nat) (cd r : Int) (r0 : Int32), KC k cd ∧ f_X8_findAccount (zI a) (zI x) imT imdP indP imdS imdB imdO imdR imdA indA mP nP mS mB mO mR mA nA mH hs = some (k, r0) ∧ (k = 0 → r0 = zI r) ∧ Ev (f_X9_findAccount (zI a) (zI x) mM nM) (QO cd r k mM) := by
  obtain ⟨wr, w0, w1, R⟩ := R
  have hI := h.1.1.2.2.2.2.1
  have hIB := h.1.1.2.1
  have hIO := h.1.1.2.2.1
  have hIA := h.1.1.2.2.2.1
  have hIP := h.1.1.1
  have hT := h.1.2
  have hT0 := hI.2.1
  have h6 := hM.1
  obtain ⟨sv, tv, hMR, -⟩ := (hM.w8 (fun _ => zI 0)).2
  have e1 := s_hasB R.2.2.1 hIB a0 a1
  have f1 := m_isBoat (mM := wrI mM 8 (fun _ => zI 0)) hMR hIB a0 a1
  have e2 := s_within (a := x) (b := 0) (c := 1) x0 x1 (by omega) (by omega) (by omega) (by omega)
  have f2 := m_in (a := x) (b := 0) (c := 1) (by omega) (by omega) (by omega) (by omega) (by omega) (by omega)
  have e3 := s_find R.2.2.2.2.2 hIA a0 a1 x0 x1
  have f3 := m_accountOf (mM := wrI mM 8 (fun _ => zI 0)) hMR hIA a0 a1 x0 x1
  by_cases c1 : 0 ≤ a ∧ a < v 1881
  · rw [if_pos c1] at e1 f1
    by_cases c2 : 0 ≤ x ∧ x ≤ 1
    · rw [if_pos c2] at e2 f2
      simp (disch := omega) only [f_X8_findAccount, f_X9_findAccount, z_c0, z_c1, z_c2, y_c0_, y_c1_, z_add, z_sub, z_neg, y_neg, z_mul, z_div, z_l, y_i, y_add, y_sub, y_mul, y_div, z_lt, z_le, z_eq, y_c1, y_c2, y_c3, y_c4, y_c5, z_gi, bd1_s, bd2_s, mul30, z_ofNat, e1, f1, e2, f2, e3, f3, nIq_1, nAq_1, eq_self, if_true, if_false, lt_eq, iz1, nz1, nz2, nz3, il0, il1, il2, il3, Int.reduceEq, Int.reduceLE, Int.reduceAdd]
      exact ⟨0, 0, _, _, Or.inl ⟨rfl, rfl⟩, rfl, fun _ => rfl, Ev_some (q_ok mM _)⟩
    · rw [if_neg c2] at e2 f2
      simp (disch := omega) only [f_X8_findAccount, f_X9_findAccount, z_c0, z_c1, z_c2, y_c0_, y_c1_, z_add, z_sub, z_neg, y_neg, z_mul, z_div, z_l, y_i, y_add, y_sub, y_mul, y_div, z_lt, z_le, z_eq, y_c1, y_c2, y_c3, y_c4, y_c5, z_gi, bd1_s, bd2_s, mul30, z_ofNat, e1, f1, e2, f2, nIq_1, nAq_0, eq_self, if_true, if_false, lt_eq, iz1, nz1, nz2, nz3, il0, il1, il2, il3, Int.reduceEq, Int.reduceLE, Int.reduceAdd]
      exact ⟨2, 2, 0, _, Or.inr (Or.inr ⟨rfl, rfl⟩), rfl, fun q => absurd q (by decide), q_fail (by decide) _⟩
  · rw [if_neg c1] at e1 f1
    simp (disch := omega) only [f_X8_findAccount, f_X9_findAccount, z_c0, z_c1, z_c2, y_c0_, y_c1_, z_add, z_sub, z_neg, y_neg, z_mul, z_div, z_l, y_i, y_add, y_sub, y_mul, y_div, z_lt, z_le, z_eq, y_c1, y_c2, y_c3, y_c4, y_c5, z_gi, bd1_s, bd2_s, mul30, z_ofNat, e1, f1, nIq_0, eq_self, if_true, if_false, lt_eq, iz1, nz1, nz2, nz3, il0, il1, il2, il3, Int.reduceEq, Int.reduceLE, Int.reduceAdd]
    exact ⟨1, 1, 0, _, Or.inr (Or.inl ⟨rfl, rfl⟩), rfl, fun q => absurd q (by decide), q_fail (by decide) _⟩
theorem q_quote (h : WF v c H) (R : RW mP nP mS mB mO mR mA nA v) (hM : MS v c H mM nM) {a : Int} (a0 : -2147483648 ≤ a) (a1 : a < 2147483648) {x : Int} (x0 : -2147483648 ≤ x) (x1 : x < 2147483648) {y : Int} (y0 : -2147483648 ≤ y) (y1 : y < 2147483648) :
    ∃ (k : Nat) (cd r : Int) (r0 : Int32), KC k cd ∧ f_X8_quote (zI a) (zI x) (zI y) imT imdP indP imdS imdB imdO imdR imdA indA mP nP mS mB mO mR mA nA mH hs = some (k, r0) ∧ (k = 0 → r0 = zI r) ∧ Ev (f_X9_quote (zI a) (zI x) (zI y) mM nM) (QO cd r k mM) := by
  obtain ⟨wr, w0, w1, R⟩ := R
  have hI := h.1.1.2.2.2.2.1
  have hIB := h.1.1.2.1
  have hIO := h.1.1.2.2.1
  have hIA := h.1.1.2.2.2.1
  have hIP := h.1.1.1
  have hT := h.1.2
  have hT0 := hI.2.1
  have h6 := hM.1
  obtain ⟨sv, tv, hMR, -⟩ := (hM.w8 (fun _ => zI 0)).2
  have e1 := s_hasB R.2.2.1 hIB a0 a1
  have f1 := m_isBoat (mM := wrI mM 8 (fun _ => zI 0)) hMR hIB a0 a1
  have e2 := s_within (a := x) (b := 0) (c := 9999) x0 x1 (by omega) (by omega) (by omega) (by omega)
  have f2 := m_in (a := x) (b := 0) (c := 9999) (by omega) (by omega) (by omega) (by omega) (by omega) (by omega)
  have e3 := s_within (a := y) (b := 0) (c := 1) y0 y1 (by omega) (by omega) (by omega) (by omega)
  have f3 := m_in (a := y) (b := 0) (c := 1) (by omega) (by omega) (by omega) (by omega) (by omega) (by omega)
  have hb := hIB.1
  by_cases c1 : 0 ≤ a ∧ a < v 1881
  · rw [if_pos c1] at e1 f1
    by_cases c2 : 0 ≤ x ∧ x ≤ 9999
    · rw [if_pos c2] at e2 f2
      by_cases c3 : 0 ≤ y ∧ y ≤ 1
      · rw [if_pos c3] at e3 f3
        have hc := (hIB.2 a c1.1 (by omega)).1
        have e4 := s_priceOf (mS := mS) (mO := mO) (mR := mR) (mA := mA) (nA := nA) R.1 R.2.2.1 hIP hc c1.1 (by omega) c2.1 c2.2 (show y = 0 ∨ y = 1 by omega)
        have f4 := m_priceOf (mM := wrI mM 8 (fun _ => zI 0)) hMR hIP hc c1.1 (by omega) c2.1 c2.2 (show y = 0 ∨ y = 1 by omega)
        simp (disch := omega) only [f_X8_quote, f_X9_quote, f_X9_quote_b53, z_c0, z_c1, z_c2, z_c9999, y_c0_, y_c1_, y_c9999_, z_add, z_sub, z_neg, y_neg, z_mul, z_div, z_l, y_i, y_add, y_sub, y_mul, y_div, z_lt, z_le, z_eq, y_c1, y_c2, y_c3, y_c4, y_c5, z_gi, bd1_s, bd2_s, mul30, z_ofNat, e1, f1, e2, f2, e3, f3, e4, f4, nIq_1, nAq_1, eq_self, if_true, if_false, lt_eq, iz1, nz1, nz2, nz3, il0, il1, il2, il3, Int.reduceEq, Int.reduceLE, Int.reduceAdd]
        exact ⟨0, 0, _, _, Or.inl ⟨rfl, rfl⟩, rfl, fun _ => rfl, Ev_some (q_ok mM _)⟩
      · rw [if_neg c3] at e3 f3
        simp (disch := omega) only [f_X8_quote, f_X9_quote, f_X9_quote_b53, z_c0, z_c1, z_c2, z_c9999, y_c0_, y_c1_, y_c9999_, z_add, z_sub, z_neg, y_neg, z_mul, z_div, z_l, y_i, y_add, y_sub, y_mul, y_div, z_lt, z_le, z_eq, y_c1, y_c2, y_c3, y_c4, y_c5, z_gi, bd1_s, bd2_s, mul30, z_ofNat, e1, f1, e2, f2, e3, f3, nIq_1, nAq_1, nAq_0, eq_self, if_true, if_false, lt_eq, iz1, nz1, nz2, nz3, il0, il1, il2, il3, Int.reduceEq, Int.reduceLE, Int.reduceAdd]
        exact ⟨2, 2, 0, _, Or.inr (Or.inr ⟨rfl, rfl⟩), rfl, fun q => absurd q (by decide), q_fail (by decide) _⟩
    · rw [if_neg c2] at e2 f2
      simp (disch := omega) only [f_X8_quote, f_X9_quote, f_X9_quote_b53, z_c0, z_c1, z_c2, z_c9999, y_c0_, y_c1_, y_c9999_, z_add, z_sub, z_neg, y_neg, z_mul, z_div, z_l, y_i, y_add, y_sub, y_mul, y_div, z_lt, z_le, z_eq, y_c1, y_c2, y_c3, y_c4, y_c5, z_gi, bd1_s, bd2_s, mul30, z_ofNat, e1, f1, e2, f2, nIq_1, nAq_0, eq_self, if_true, if_false, lt_eq, iz1, nz1, nz2, nz3, il0, il1, il2, il3, Int.reduceEq, Int.reduceLE, Int.reduceAdd]
      exact ⟨2, 2, 0, _, Or.inr (Or.inr ⟨rfl, rfl⟩), rfl, fun q => absurd q (by decide), q_fail (by decide) _⟩
  · rw [if_neg c1] at e1 f1
    simp (disch := omega) only [f_X8_quote, f_X9_quote, f_X9_quote_b53, z_c0, z_c1, z_c2, z_c9999, y_c0_, y_c1_, y_c9999_, z_add, z_sub, z_neg, y_neg, z_mul, z_div, z_l, y_i, y_add, y_sub, y_mul, y_div, z_lt, z_le, z_eq, y_c1, y_c2, y_c3, y_c4, y_c5, z_gi, bd1_s, bd2_s, mul30, z_ofNat, e1, f1, nIq_0, eq_self, if_true, if_false, lt_eq, iz1, nz1, nz2, nz3, il0, il1, il2, il3, Int.reduceEq, Int.reduceLE, Int.reduceAdd]
    exact ⟨1, 1, 0, _, Or.inr (Or.inl ⟨rfl, rfl⟩), rfl, fun q => absurd q (by decide), q_fail (by decide) _⟩
theorem q_total (h : WF v c H) (R : RW mP nP mS mB mO mR mA nA v) (hH : HR c H mH hs) (hM : MS v c H mM nM) {a : Int} (a0 : -2147483648 ≤ a) (a1 : a < 2147483648) :
    ∃ (k : Nat) (cd r : Int) (r0 : Int64), KA k cd ∧ f_X8_total (zI a) imT imdP indP imdS imdB imdO imdR imdA indA mP nP mS mB mO mR mA nA mH hs = some (k, r0) ∧ (k = 0 → r0 = zL r) ∧ Ev (f_X9_total (zI a) mM nM) (QOL cd r k mM) := by
  obtain ⟨wr, w0, w1, R⟩ := R
  have hI := h.1.1.2.2.2.2.1
  have hIB := h.1.1.2.1
  have hIO := h.1.1.2.2.1
  have hIA := h.1.1.2.2.2.1
  have hIP := h.1.1.1
  have hT := h.1.2
  have hT0 := hI.2.1
  have h6 := hM.1
  obtain ⟨sv, tv, hMR, -⟩ := (hM.w8 (fun _ => zI 0)).2
  have e1 := s_within (a := a) (b := 0) (c := 15) a0 a1 (by omega) (by omega) (by omega) (by omega)
  obtain ⟨st, -, -, hc1, -⟩ := hH
  have hcb := h.2.1
  have w6 : (wrI mM 8 (fun _ => zI 0)) 6 0 = zI c := by rw [wrI_ne _ _ (by decide)]; exact h6
  by_cases c1 : 0 ≤ a ∧ a ≤ 15
  · rw [if_pos c1] at e1
    obtain ⟨r1, r2, r3, r4, r5, r6, r7, r8⟩ := R.1
    have g76 := h.1.1.2.2.2.2.2.2.2.2.1
    have g77 := h.1.1.2.2.2.2.2.2.2.2.2.1
    have g79 := h.1.1.2.2.2.2.2.2.2.2.2.2
    have s3 := s_melted R.2.1 hI
    have s3e := melted_eq h.1.1
    have s3b : ∀ s : Int, 0 ≤ s → s < 5 → 0 ≤ v (52 + s) ∧ v (52 + s) ≤ 6000 * v 1875 := fun s p q => (hI.2.2.1 s p q).2.2.2.2.1
    have b0 := s3b 0 (by omega) (by omega)
    have b1 := s3b 1 (by omega) (by omega)
    have b2 := s3b 2 (by omega) (by omega)
    have b3 := s3b 3 (by omega) (by omega)
    have b4 := s3b 4 (by omega) (by omega)
    simp only [Int.reduceAdd] at b0 b1 b2 b3 b4
    have h78 := h.1.1.2.2.2.2.2.2.2.1
    rw [s3e] at s3
    have s4 := s_mass R.2.1 hI
    have m4 := m_stored (mM := wrI mM 8 (fun _ => zI 0)) hMR hI
    have s4b := storedF_b hI
    have s6 := s_blocks R.2.1 hI
    have m6 := m_blocks (mM := wrI mM 8 (fun _ => zI 0)) hMR hI
    have s6b := blocksF_b hI
    have t7 := R.2.1.1
    have t8 := R.2.2.1.1
    have t9 := R.2.2.2.1.1
    have t10 := R.2.2.2.1.2.1
    have m10 := m_openMany (mM := wrI mM 8 (fun _ => zI 0)) hMR hIO
    have b10 := openC_0 v
    have b10' := hIO.2.1
    have t13 := (s_kept R.2.2.2.2.1 (by omega)).1
    have t14 := R.2.2.2.2.2.1
    have hb7 := hI.1
    have hb8 := hIB.1
    have hb9 := hIO.1
    have hb13 := h.1.1.2.2.2.2.2.2.1
    have hb14 := hIA.1
    have hx : a = 0 ∨ a = 1 ∨ a = 2 ∨ a = 3 ∨ a = 4 ∨ a = 5 ∨ a = 6 ∨ a = 7 ∨ a = 8 ∨ a = 9 ∨ a = 10 ∨ a = 11 ∨ a = 12 ∨ a = 13 ∨ a = 14 ∨ a = 15 := by omega
    rcases hx with rfl | rfl | rfl | rfl | rfl | rfl | rfl | rfl | rfl | rfl | rfl | rfl | rfl | rfl | rfl | rfl
    · simp (disch := omega) only [f_X8_total, f_X9_total, f_X4_totalOf, z_c0, z_c1, z_c2, z_c3, z_c4, z_c5, z_c6, z_c7, z_c8, z_c9, z_c10, z_c11, z_c12, z_c13, z_c14, z_c15, z_c1875, z_c1876, z_c1877, z_c1878, z_c1879, z_c1880, z_c1881, z_c1882, z_c1883, z_c1884, z_c1885, z_c1886, y_c0_, z_add, z_sub, z_neg, y_neg, z_mul, z_div, z_l, y_i, y_add, y_sub, y_mul, y_div, z_lt, z_le, z_eq, y_c1, y_c2, y_c3, y_c4, y_c5, z_gi, bd1_s, bd2_s, mul30, z_ofNat, e1, nAq_1, hMR.rd, r3, eq_self, if_true, if_false, lt_eq, iz1, nz1, nz2, nz3, il0, il1, il2, il3, Int.reduceEq, Int.reduceLE, Int.reduceAdd]
      exact ⟨0, 0, _, _, Or.inl ⟨rfl, rfl⟩, rfl, fun _ => rfl, Ev_some (q_okL mM _)⟩
    · simp (disch := omega) only [f_X8_total, f_X9_total, f_X4_totalOf, z_c0, z_c1, z_c2, z_c3, z_c4, z_c5, z_c6, z_c7, z_c8, z_c9, z_c10, z_c11, z_c12, z_c13, z_c14, z_c15, z_c1875, z_c1876, z_c1877, z_c1878, z_c1879, z_c1880, z_c1881, z_c1882, z_c1883, z_c1884, z_c1885, z_c1886, y_c0_, z_add, z_sub, z_neg, y_neg, z_mul, z_div, z_l, y_i, y_add, y_sub, y_mul, y_div, z_lt, z_le, z_eq, y_c1, y_c2, y_c3, y_c4, y_c5, z_gi, bd1_s, bd2_s, mul30, z_ofNat, e1, nAq_1, hMR.rd, r4, eq_self, if_true, if_false, lt_eq, iz1, nz1, nz2, nz3, il0, il1, il2, il3, Int.reduceEq, Int.reduceLE, Int.reduceAdd]
      exact ⟨0, 0, _, _, Or.inl ⟨rfl, rfl⟩, rfl, fun _ => rfl, Ev_some (q_okL mM _)⟩
    · simp (disch := omega) only [f_X8_total, f_X9_total, f_X4_totalOf, z_c0, z_c1, z_c2, z_c3, z_c4, z_c5, z_c6, z_c7, z_c8, z_c9, z_c10, z_c11, z_c12, z_c13, z_c14, z_c15, z_c1875, z_c1876, z_c1877, z_c1878, z_c1879, z_c1880, z_c1881, z_c1882, z_c1883, z_c1884, z_c1885, z_c1886, y_c0_, z_add, z_sub, z_neg, y_neg, z_mul, z_div, z_l, y_i, y_add, y_sub, y_mul, y_div, z_lt, z_le, z_eq, y_c1, y_c2, y_c3, y_c4, y_c5, z_gi, bd1_s, bd2_s, mul30, z_ofNat, e1, nAq_1, hMR.rd, r5, eq_self, if_true, if_false, lt_eq, iz1, nz1, nz2, nz3, il0, il1, il2, il3, Int.reduceEq, Int.reduceLE, Int.reduceAdd]
      exact ⟨0, 0, _, _, Or.inl ⟨rfl, rfl⟩, rfl, fun _ => rfl, Ev_some (q_okL mM _)⟩
    · simp (disch := omega) only [f_X8_total, f_X9_total, f_X4_totalOf, z_c0, z_c1, z_c2, z_c3, z_c4, z_c5, z_c6, z_c7, z_c8, z_c9, z_c10, z_c11, z_c12, z_c13, z_c14, z_c15, z_c1875, z_c1876, z_c1877, z_c1878, z_c1879, z_c1880, z_c1881, z_c1882, z_c1883, z_c1884, z_c1885, z_c1886, y_c0_, z_add, z_sub, z_neg, y_neg, z_mul, z_div, z_l, y_i, y_add, y_sub, y_mul, y_div, z_lt, z_le, z_eq, y_c1, y_c2, y_c3, y_c4, y_c5, z_gi, bd1_s, bd2_s, mul30, z_ofNat, e1, nAq_1, hMR.rd, s3, eq_self, if_true, if_false, lt_eq, iz1, nz1, nz2, nz3, il0, il1, il2, il3, Int.reduceEq, Int.reduceLE, Int.reduceAdd]
      exact ⟨0, 0, _, _, Or.inl ⟨rfl, rfl⟩, rfl, fun _ => rfl, Ev_some (q_okL mM _)⟩
    · simp (disch := omega) only [f_X8_total, f_X9_total, f_X4_totalOf, z_c0, z_c1, z_c2, z_c3, z_c4, z_c5, z_c6, z_c7, z_c8, z_c9, z_c10, z_c11, z_c12, z_c13, z_c14, z_c15, z_c1875, z_c1876, z_c1877, z_c1878, z_c1879, z_c1880, z_c1881, z_c1882, z_c1883, z_c1884, z_c1885, z_c1886, y_c0_, z_add, z_sub, z_neg, y_neg, z_mul, z_div, z_l, y_i, y_add, y_sub, y_mul, y_div, z_lt, z_le, z_eq, y_c1, y_c2, y_c3, y_c4, y_c5, z_gi, bd1_s, bd2_s, mul30, z_ofNat, e1, nAq_1, hMR.rd, s4, m4, eq_self, if_true, if_false, lt_eq, iz1, nz1, nz2, nz3, il0, il1, il2, il3, Int.reduceEq, Int.reduceLE, Int.reduceAdd]
      exact ⟨0, 0, _, _, Or.inl ⟨rfl, rfl⟩, rfl, fun _ => rfl, Ev_some (q_okL mM _)⟩
    · simp (disch := omega) only [f_X8_total, f_X9_total, f_X4_totalOf, z_c0, z_c1, z_c2, z_c3, z_c4, z_c5, z_c6, z_c7, z_c8, z_c9, z_c10, z_c11, z_c12, z_c13, z_c14, z_c15, z_c1875, z_c1876, z_c1877, z_c1878, z_c1879, z_c1880, z_c1881, z_c1882, z_c1883, z_c1884, z_c1885, z_c1886, y_c0_, z_add, z_sub, z_neg, y_neg, z_mul, z_div, z_l, y_i, y_add, y_sub, y_mul, y_div, z_lt, z_le, z_eq, y_c1, y_c2, y_c3, y_c4, y_c5, z_gi, bd1_s, bd2_s, mul30, z_ofNat, e1, nAq_1, hMR.rd, r6, eq_self, if_true, if_false, lt_eq, iz1, nz1, nz2, nz3, il0, il1, il2, il3, Int.reduceEq, Int.reduceLE, Int.reduceAdd]
      exact ⟨0, 0, _, _, Or.inl ⟨rfl, rfl⟩, rfl, fun _ => rfl, Ev_some (q_okL mM _)⟩
    · simp (disch := omega) only [f_X8_total, f_X9_total, f_X4_totalOf, z_c0, z_c1, z_c2, z_c3, z_c4, z_c5, z_c6, z_c7, z_c8, z_c9, z_c10, z_c11, z_c12, z_c13, z_c14, z_c15, z_c1875, z_c1876, z_c1877, z_c1878, z_c1879, z_c1880, z_c1881, z_c1882, z_c1883, z_c1884, z_c1885, z_c1886, y_c0_, z_add, z_sub, z_neg, y_neg, z_mul, z_div, z_l, y_i, y_add, y_sub, y_mul, y_div, z_lt, z_le, z_eq, y_c1, y_c2, y_c3, y_c4, y_c5, z_gi, bd1_s, bd2_s, mul30, z_ofNat, e1, nAq_1, hMR.rd, s6, m6, eq_self, if_true, if_false, lt_eq, iz1, nz1, nz2, nz3, il0, il1, il2, il3, Int.reduceEq, Int.reduceLE, Int.reduceAdd]
      exact ⟨0, 0, _, _, Or.inl ⟨rfl, rfl⟩, rfl, fun _ => rfl, Ev_some (q_okL mM _)⟩
    · simp (disch := omega) only [f_X8_total, f_X9_total, f_X4_totalOf, z_c0, z_c1, z_c2, z_c3, z_c4, z_c5, z_c6, z_c7, z_c8, z_c9, z_c10, z_c11, z_c12, z_c13, z_c14, z_c15, z_c1875, z_c1876, z_c1877, z_c1878, z_c1879, z_c1880, z_c1881, z_c1882, z_c1883, z_c1884, z_c1885, z_c1886, y_c0_, z_add, z_sub, z_neg, y_neg, z_mul, z_div, z_l, y_i, y_add, y_sub, y_mul, y_div, z_lt, z_le, z_eq, y_c1, y_c2, y_c3, y_c4, y_c5, z_gi, bd1_s, bd2_s, mul30, z_ofNat, e1, nAq_1, hMR.rd, t7, eq_self, if_true, if_false, lt_eq, iz1, nz1, nz2, nz3, il0, il1, il2, il3, Int.reduceEq, Int.reduceLE, Int.reduceAdd]
      exact ⟨0, 0, _, _, Or.inl ⟨rfl, rfl⟩, rfl, fun _ => rfl, Ev_some (q_okL mM _)⟩
    · simp (disch := omega) only [f_X8_total, f_X9_total, f_X4_totalOf, z_c0, z_c1, z_c2, z_c3, z_c4, z_c5, z_c6, z_c7, z_c8, z_c9, z_c10, z_c11, z_c12, z_c13, z_c14, z_c15, z_c1875, z_c1876, z_c1877, z_c1878, z_c1879, z_c1880, z_c1881, z_c1882, z_c1883, z_c1884, z_c1885, z_c1886, y_c0_, z_add, z_sub, z_neg, y_neg, z_mul, z_div, z_l, y_i, y_add, y_sub, y_mul, y_div, z_lt, z_le, z_eq, y_c1, y_c2, y_c3, y_c4, y_c5, z_gi, bd1_s, bd2_s, mul30, z_ofNat, e1, nAq_1, hMR.rd, t8, eq_self, if_true, if_false, lt_eq, iz1, nz1, nz2, nz3, il0, il1, il2, il3, Int.reduceEq, Int.reduceLE, Int.reduceAdd]
      exact ⟨0, 0, _, _, Or.inl ⟨rfl, rfl⟩, rfl, fun _ => rfl, Ev_some (q_okL mM _)⟩
    · simp (disch := omega) only [f_X8_total, f_X9_total, f_X4_totalOf, z_c0, z_c1, z_c2, z_c3, z_c4, z_c5, z_c6, z_c7, z_c8, z_c9, z_c10, z_c11, z_c12, z_c13, z_c14, z_c15, z_c1875, z_c1876, z_c1877, z_c1878, z_c1879, z_c1880, z_c1881, z_c1882, z_c1883, z_c1884, z_c1885, z_c1886, y_c0_, z_add, z_sub, z_neg, y_neg, z_mul, z_div, z_l, y_i, y_add, y_sub, y_mul, y_div, z_lt, z_le, z_eq, y_c1, y_c2, y_c3, y_c4, y_c5, z_gi, bd1_s, bd2_s, mul30, z_ofNat, e1, nAq_1, hMR.rd, t9, eq_self, if_true, if_false, lt_eq, iz1, nz1, nz2, nz3, il0, il1, il2, il3, Int.reduceEq, Int.reduceLE, Int.reduceAdd]
      exact ⟨0, 0, _, _, Or.inl ⟨rfl, rfl⟩, rfl, fun _ => rfl, Ev_some (q_okL mM _)⟩
    · simp (disch := omega) only [f_X8_total, f_X9_total, f_X4_totalOf, z_c0, z_c1, z_c2, z_c3, z_c4, z_c5, z_c6, z_c7, z_c8, z_c9, z_c10, z_c11, z_c12, z_c13, z_c14, z_c15, z_c1875, z_c1876, z_c1877, z_c1878, z_c1879, z_c1880, z_c1881, z_c1882, z_c1883, z_c1884, z_c1885, z_c1886, y_c0_, z_add, z_sub, z_neg, y_neg, z_mul, z_div, z_l, y_i, y_add, y_sub, y_mul, y_div, z_lt, z_le, z_eq, y_c1, y_c2, y_c3, y_c4, y_c5, z_gi, bd1_s, bd2_s, mul30, z_ofNat, e1, nAq_1, hMR.rd, t10, m10, eq_self, if_true, if_false, lt_eq, iz1, nz1, nz2, nz3, il0, il1, il2, il3, Int.reduceEq, Int.reduceLE, Int.reduceAdd]
      exact ⟨0, 0, _, _, Or.inl ⟨rfl, rfl⟩, rfl, fun _ => rfl, Ev_some (q_okL mM _)⟩
    · simp (disch := omega) only [f_X8_total, f_X9_total, f_X4_totalOf, z_c0, z_c1, z_c2, z_c3, z_c4, z_c5, z_c6, z_c7, z_c8, z_c9, z_c10, z_c11, z_c12, z_c13, z_c14, z_c15, z_c1875, z_c1876, z_c1877, z_c1878, z_c1879, z_c1880, z_c1881, z_c1882, z_c1883, z_c1884, z_c1885, z_c1886, y_c0_, z_add, z_sub, z_neg, y_neg, z_mul, z_div, z_l, y_i, y_add, y_sub, y_mul, y_div, z_lt, z_le, z_eq, y_c1, y_c2, y_c3, y_c4, y_c5, z_gi, bd1_s, bd2_s, mul30, z_ofNat, e1, nAq_1, hMR.rd, r7, eq_self, if_true, if_false, lt_eq, iz1, nz1, nz2, nz3, il0, il1, il2, il3, Int.reduceEq, Int.reduceLE, Int.reduceAdd]
      exact ⟨0, 0, _, _, Or.inl ⟨rfl, rfl⟩, rfl, fun _ => rfl, Ev_some (q_okL mM _)⟩
    · simp (disch := omega) only [f_X8_total, f_X9_total, f_X4_totalOf, z_c0, z_c1, z_c2, z_c3, z_c4, z_c5, z_c6, z_c7, z_c8, z_c9, z_c10, z_c11, z_c12, z_c13, z_c14, z_c15, z_c1875, z_c1876, z_c1877, z_c1878, z_c1879, z_c1880, z_c1881, z_c1882, z_c1883, z_c1884, z_c1885, z_c1886, y_c0_, z_add, z_sub, z_neg, y_neg, z_mul, z_div, z_l, y_i, y_add, y_sub, y_mul, y_div, z_lt, z_le, z_eq, y_c1, y_c2, y_c3, y_c4, y_c5, z_gi, bd1_s, bd2_s, mul30, z_ofNat, e1, nAq_1, hMR.rd, r8, eq_self, if_true, if_false, lt_eq, iz1, nz1, nz2, nz3, il0, il1, il2, il3, Int.reduceEq, Int.reduceLE, Int.reduceAdd]
      exact ⟨0, 0, _, _, Or.inl ⟨rfl, rfl⟩, rfl, fun _ => rfl, Ev_some (q_okL mM _)⟩
    · simp (disch := omega) only [f_X8_total, f_X9_total, f_X4_totalOf, z_c0, z_c1, z_c2, z_c3, z_c4, z_c5, z_c6, z_c7, z_c8, z_c9, z_c10, z_c11, z_c12, z_c13, z_c14, z_c15, z_c1875, z_c1876, z_c1877, z_c1878, z_c1879, z_c1880, z_c1881, z_c1882, z_c1883, z_c1884, z_c1885, z_c1886, y_c0_, z_add, z_sub, z_neg, y_neg, z_mul, z_div, z_l, y_i, y_add, y_sub, y_mul, y_div, z_lt, z_le, z_eq, y_c1, y_c2, y_c3, y_c4, y_c5, z_gi, bd1_s, bd2_s, mul30, z_ofNat, e1, nAq_1, hMR.rd, t13, eq_self, if_true, if_false, lt_eq, iz1, nz1, nz2, nz3, il0, il1, il2, il3, Int.reduceEq, Int.reduceLE, Int.reduceAdd]
      exact ⟨0, 0, _, _, Or.inl ⟨rfl, rfl⟩, rfl, fun _ => rfl, Ev_some (q_okL mM _)⟩
    · simp (disch := omega) only [f_X8_total, f_X9_total, f_X4_totalOf, z_c0, z_c1, z_c2, z_c3, z_c4, z_c5, z_c6, z_c7, z_c8, z_c9, z_c10, z_c11, z_c12, z_c13, z_c14, z_c15, z_c1875, z_c1876, z_c1877, z_c1878, z_c1879, z_c1880, z_c1881, z_c1882, z_c1883, z_c1884, z_c1885, z_c1886, y_c0_, z_add, z_sub, z_neg, y_neg, z_mul, z_div, z_l, y_i, y_add, y_sub, y_mul, y_div, z_lt, z_le, z_eq, y_c1, y_c2, y_c3, y_c4, y_c5, z_gi, bd1_s, bd2_s, mul30, z_ofNat, e1, nAq_1, hMR.rd, t14, eq_self, if_true, if_false, lt_eq, iz1, nz1, nz2, nz3, il0, il1, il2, il3, Int.reduceEq, Int.reduceLE, Int.reduceAdd]
      exact ⟨0, 0, _, _, Or.inl ⟨rfl, rfl⟩, rfl, fun _ => rfl, Ev_some (q_okL mM _)⟩
    · simp (disch := omega) only [f_X8_total, f_X9_total, f_X4_totalOf, z_c0, z_c1, z_c2, z_c3, z_c4, z_c5, z_c6, z_c7, z_c8, z_c9, z_c10, z_c11, z_c12, z_c13, z_c14, z_c15, z_c1875, z_c1876, z_c1877, z_c1878, z_c1879, z_c1880, z_c1881, z_c1882, z_c1883, z_c1884, z_c1885, z_c1886, y_c0_, z_add, z_sub, z_neg, y_neg, z_mul, z_div, z_l, y_i, y_add, y_sub, y_mul, y_div, z_lt, z_le, z_eq, y_c1, y_c2, y_c3, y_c4, y_c5, z_gi, bd1_s, bd2_s, mul30, z_ofNat, e1, nAq_1, hMR.rd, hc1, w6, eq_self, if_true, if_false, lt_eq, iz1, nz1, nz2, nz3, il0, il1, il2, il3, Int.reduceEq, Int.reduceLE, Int.reduceAdd]
      exact ⟨0, 0, _, _, Or.inl ⟨rfl, rfl⟩, rfl, fun _ => rfl, Ev_some (q_okL mM _)⟩
  · rw [if_neg c1] at e1
    have n0 : (a = 0) = False := eq_false (by omega)
    have n1 : (a = 1) = False := eq_false (by omega)
    have n2 : (a = 2) = False := eq_false (by omega)
    have n3 : (a = 3) = False := eq_false (by omega)
    have n4 : (a = 4) = False := eq_false (by omega)
    have n5 : (a = 5) = False := eq_false (by omega)
    have n6 : (a = 6) = False := eq_false (by omega)
    have n7 : (a = 7) = False := eq_false (by omega)
    have n8 : (a = 8) = False := eq_false (by omega)
    have n9 : (a = 9) = False := eq_false (by omega)
    have n10 : (a = 10) = False := eq_false (by omega)
    have n11 : (a = 11) = False := eq_false (by omega)
    have n12 : (a = 12) = False := eq_false (by omega)
    have n13 : (a = 13) = False := eq_false (by omega)
    have n14 : (a = 14) = False := eq_false (by omega)
    have n15 : (a = 15) = False := eq_false (by omega)
    simp (disch := omega) only [f_X8_total, f_X9_total, f_X4_totalOf, z_c0, z_c1, z_c2, z_c3, z_c4, z_c5, z_c6, z_c7, z_c8, z_c9, z_c10, z_c11, z_c12, z_c13, z_c14, z_c15, z_c1875, z_c1876, z_c1877, z_c1878, z_c1879, z_c1880, z_c1881, z_c1882, z_c1883, z_c1884, z_c1885, z_c1886, y_c0_, z_add, z_sub, z_neg, y_neg, z_mul, z_div, z_l, y_i, y_add, y_sub, y_mul, y_div, z_lt, z_le, z_eq, y_c1, y_c2, y_c3, y_c4, y_c5, z_gi, bd1_s, bd2_s, mul30, z_ofNat, e1, nAq_0, n0, n1, n2, n3, n4, n5, n6, n7, n8, n9, n10, n11, n12, n13, n14, n15, eq_self, if_true, if_false, lt_eq, iz1, nz1, nz2, nz3, il0, il1, il2, il3, Int.reduceEq, Int.reduceLE, Int.reduceAdd]
    exact ⟨2, 1, 0, _, Or.inr ⟨rfl, rfl⟩, rfl, fun q => absurd q (by decide), q_failL (by decide) _⟩
end
