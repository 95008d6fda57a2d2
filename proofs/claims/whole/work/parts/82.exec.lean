/-! execute: what a command does, on both sides -/
section
variable {v : VI} {sv tv : Nat → Int64} {imT imdP : Mem} {indP : MemL} {imdS imdB imdO imdR imdA : Mem} {indA : MemL} {mP : Mem} {nP : MemL} {mS mB mO mR mA : Mem} {nA : MemL} {mH : Mem} {hs : Nat → PSt} {mM : Mem} {nM : MemL}
/-- the two kinds of refusal, and that both are 0 together -/
def FK (f k : Int) : Prop := (0 ≤ f ∧ f ≤ 3) ∧ (0 ≤ k ∧ k ≤ 3) ∧ (f = 0 ↔ k = 0)
theorem x_pass (h : PK v) (R : RW mP nP mS mB mO mR mA nA v) (hMR : MR nM v sv tv) {a : Int} (a0 : -2147483648 ≤ a) (a1 : a < 2147483648) :
    ∃ f k : Int, f_X8_passFault (zI a) imT imdP indP imdS imdB imdO imdR imdA indA mP nP mS mB mO mR mA nA mH hs = some (zI f) ∧ f_X9_passThrows (zI a) mM nM = some (zI k) ∧ FK f k ∧ (f = 0 → (1 ≤ a ∧ a ≤ 48) ∧ v 1875 + a ≤ 10000) := by
  have hI := h.1.2.2.2.2.1
  have hT0 := hI.2.1
  have hT := h.2
  have e0 : mP 7 0 = zI (v 1875) := by obtain ⟨wr, w0, w1, R⟩ := R; exact R.1.2.2.1
  have e1 := s_within (a := a) (b := 1) (c := 48) a0 a1 (by omega) (by omega) (by omega) (by omega)
  have f1 := m_in (a := a) (b := 1) (c := 48) (by omega) (by omega) (by omega) (by omega) (by omega) (by omega)
  by_cases c1 : 1 ≤ a ∧ a ≤ 48
  · rw [if_pos c1] at e1 f1
    by_cases c2 : v 1875 + a ≤ 10000
    · have l1 : (v 1875 + a ≤ 10000) = True := eq_true c2
      refine ⟨0, 0, ?_, ?_, by unfold FK; omega, fun _ => ⟨c1, c2⟩⟩
      · simp (disch := omega) only [f_X8_passFault, z_c0, z_c1, z_c2, z_c3, z_c48, z_c10000, z_add, z_sub, z_neg, y_neg, z_mul, z_div, z_l, y_i, y_add, y_sub, y_mul, y_div, z_lt, z_le, z_eq, y_c1, y_c2, y_c3, y_c4, y_c5, z_gi, bd1_s, bd2_s, mul30, z_ofNat, e1, e0, l1, eq_self, if_true, if_false, lt_eq, iz1, nz1, nz2, nz3, il0, il1, il2, il3, Int.reduceEq, Int.reduceLE, Int.reduceAdd]
      · simp (disch := omega) only [f_X9_passThrows, z_c0, z_c1, z_c2, z_c1875, y_c1_, y_c48_, y_c10000_, z_add, z_sub, z_neg, y_neg, z_mul, z_div, z_l, y_i, y_add, y_sub, y_mul, y_div, z_lt, z_le, z_eq, y_c1, y_c2, y_c3, y_c4, y_c5, z_gi, bd1_s, bd2_s, mul30, z_ofNat, f1, l1, hMR.rd, eq_self, if_true, if_false, lt_eq, iz1, nz1, nz2, nz3, il0, il1, il2, il3, Int.reduceEq, Int.reduceLE, Int.reduceAdd]
    · have l1 : (v 1875 + a ≤ 10000) = False := eq_false c2
      refine ⟨3, 2, ?_, ?_, by unfold FK; omega, fun r => by omega⟩
      · simp (disch := omega) only [f_X8_passFault, z_c0, z_c1, z_c2, z_c3, z_c48, z_c10000, z_add, z_sub, z_neg, y_neg, z_mul, z_div, z_l, y_i, y_add, y_sub, y_mul, y_div, z_lt, z_le, z_eq, y_c1, y_c2, y_c3, y_c4, y_c5, z_gi, bd1_s, bd2_s, mul30, z_ofNat, e1, e0, l1, eq_self, if_true, if_false, lt_eq, iz1, nz1, nz2, nz3, il0, il1, il2, il3, Int.reduceEq, Int.reduceLE, Int.reduceAdd]
      · simp (disch := omega) only [f_X9_passThrows, z_c0, z_c1, z_c2, z_c1875, y_c1_, y_c48_, y_c10000_, z_add, z_sub, z_neg, y_neg, z_mul, z_div, z_l, y_i, y_add, y_sub, y_mul, y_div, z_lt, z_le, z_eq, y_c1, y_c2, y_c3, y_c4, y_c5, z_gi, bd1_s, bd2_s, mul30, z_ofNat, f1, l1, hMR.rd, eq_self, if_true, if_false, lt_eq, iz1, nz1, nz2, nz3, il0, il1, il2, il3, Int.reduceEq, Int.reduceLE, Int.reduceAdd]
  · rw [if_neg c1] at e1 f1
    refine ⟨2, 1, ?_, ?_, by unfold FK; omega, fun r => by omega⟩
    · simp (disch := omega) only [f_X8_passFault, z_c0, z_c1, z_c2, z_c3, z_c48, z_c10000, z_add, z_sub, z_neg, y_neg, z_mul, z_div, z_l, y_i, y_add, y_sub, y_mul, y_div, z_lt, z_le, z_eq, y_c1, y_c2, y_c3, y_c4, y_c5, z_gi, bd1_s, bd2_s, mul30, z_ofNat, e1, eq_self, if_true, if_false, lt_eq, iz1, nz1, nz2, nz3, il0, il1, il2, il3, Int.reduceEq, Int.reduceLE, Int.reduceAdd]
    · simp (disch := omega) only [f_X9_passThrows, z_c0, z_c1, z_c2, z_c1875, y_c1_, y_c48_, y_c10000_, z_add, z_sub, z_neg, y_neg, z_mul, z_div, z_l, y_i, y_add, y_sub, y_mul, y_div, z_lt, z_le, z_eq, y_c1, y_c2, y_c3, y_c4, y_c5, z_gi, bd1_s, bd2_s, mul30, z_ofNat, f1, eq_self, if_true, if_false, lt_eq, iz1, nz1, nz2, nz3, il0, il1, il2, il3, Int.reduceEq, Int.reduceLE, Int.reduceAdd]
theorem x_catch (h : PK v) (R : RW mP nP mS mB mO mR mA nA v) (hMR : MR nM v sv tv) {a x : Int} (a0 : -2147483648 ≤ a) (a1 : a < 2147483648) (x0 : -2147483648 ≤ x) (x1 : x < 2147483648) :
    ∃ f k : Int, f_X8_catchFault (zI a) (zI x) imT imdP indP imdS imdB imdO imdR imdA indA mP nP mS mB mO mR mA nA mH hs = some (zI f) ∧ f_X9_catchThrows (zI a) (zI x) mM nM = some (zI k) ∧ FK f k ∧ (f = 0 → (0 ≤ a ∧ a < v 1881) ∧ (0 ≤ x ∧ x ≤ 1000000)) := by
  obtain ⟨wr, w0, w1, R⟩ := R
  have hIB := h.1.2.1
  have e1 := s_hasB R.2.2.1 hIB a0 a1
  have f1 := m_isBoat (mM := mM) hMR hIB a0 a1
  have e2 := s_within (a := x) (b := 0) (c := 1000000) x0 x1 (by omega) (by omega) (by omega) (by omega)
  have f2 := m_in (a := x) (b := 0) (c := 1000000) (by omega) (by omega) (by omega) (by omega) (by omega) (by omega)
  by_cases c1 : 0 ≤ a ∧ a < v 1881
  · rw [if_pos c1] at e1 f1
    by_cases c2 : 0 ≤ x ∧ x ≤ 1000000
    · rw [if_pos c2] at e2 f2
      refine ⟨0, 0, ?_, ?_, by unfold FK; omega, fun _ => ⟨c1, c2⟩⟩
      · simp (disch := omega) only [f_X8_catchFault, z_c0, z_c1, z_c2, z_c1000000, z_add, z_sub, z_neg, y_neg, z_mul, z_div, z_l, y_i, y_add, y_sub, y_mul, y_div, z_lt, z_le, z_eq, y_c1, y_c2, y_c3, y_c4, y_c5, z_gi, bd1_s, bd2_s, mul30, z_ofNat, e1, e2, eq_self, if_true, if_false, lt_eq, iz1, nz1, nz2, nz3, il0, il1, il2, il3, Int.reduceEq, Int.reduceLE, Int.reduceAdd]
      · simp (disch := omega) only [f_X9_catchThrows, z_c0, z_c1, z_c2, y_c0_, y_c1000000_, z_add, z_sub, z_neg, y_neg, z_mul, z_div, z_l, y_i, y_add, y_sub, y_mul, y_div, z_lt, z_le, z_eq, y_c1, y_c2, y_c3, y_c4, y_c5, z_gi, bd1_s, bd2_s, mul30, z_ofNat, f1, f2, eq_self, if_true, if_false, lt_eq, iz1, nz1, nz2, nz3, il0, il1, il2, il3, Int.reduceEq, Int.reduceLE, Int.reduceAdd]
    · rw [if_neg c2] at e2 f2
      refine ⟨2, 2, ?_, ?_, by unfold FK; omega, fun r => by omega⟩
      · simp (disch := omega) only [f_X8_catchFault, z_c0, z_c1, z_c2, z_c1000000, z_add, z_sub, z_neg, y_neg, z_mul, z_div, z_l, y_i, y_add, y_sub, y_mul, y_div, z_lt, z_le, z_eq, y_c1, y_c2, y_c3, y_c4, y_c5, z_gi, bd1_s, bd2_s, mul30, z_ofNat, e1, e2, eq_self, if_true, if_false, lt_eq, iz1, nz1, nz2, nz3, il0, il1, il2, il3, Int.reduceEq, Int.reduceLE, Int.reduceAdd]
      · simp (disch := omega) only [f_X9_catchThrows, z_c0, z_c1, z_c2, y_c0_, y_c1000000_, z_add, z_sub, z_neg, y_neg, z_mul, z_div, z_l, y_i, y_add, y_sub, y_mul, y_div, z_lt, z_le, z_eq, y_c1, y_c2, y_c3, y_c4, y_c5, z_gi, bd1_s, bd2_s, mul30, z_ofNat, f1, f2, eq_self, if_true, if_false, lt_eq, iz1, nz1, nz2, nz3, il0, il1, il2, il3, Int.reduceEq, Int.reduceLE, Int.reduceAdd]
  · rw [if_neg c1] at e1 f1
    refine ⟨1, 1, ?_, ?_, by unfold FK; omega, fun r => by omega⟩
    · simp (disch := omega) only [f_X8_catchFault, z_c0, z_c1, z_c2, z_c1000000, z_add, z_sub, z_neg, y_neg, z_mul, z_div, z_l, y_i, y_add, y_sub, y_mul, y_div, z_lt, z_le, z_eq, y_c1, y_c2, y_c3, y_c4, y_c5, z_gi, bd1_s, bd2_s, mul30, z_ofNat, e1, eq_self, if_true, if_false, lt_eq, iz1, nz1, nz2, nz3, il0, il1, il2, il3, Int.reduceEq, Int.reduceLE, Int.reduceAdd]
    · simp (disch := omega) only [f_X9_catchThrows, z_c0, z_c1, z_c2, y_c0_, y_c1000000_, z_add, z_sub, z_neg, y_neg, z_mul, z_div, z_l, y_i, y_add, y_sub, y_mul, y_div, z_lt, z_le, z_eq, y_c1, y_c2, y_c3, y_c4, y_c5, z_gi, bd1_s, bd2_s, mul30, z_ofNat, f1, eq_self, if_true, if_false, lt_eq, iz1, nz1, nz2, nz3, il0, il1, il2, il3, Int.reduceEq, Int.reduceLE, Int.reduceAdd]
theorem x_pay (h : PK v) (R : RW mP nP mS mB mO mR mA nA v) (hMR : MR nM v sv tv) {a x : Int} (a0 : -2147483648 ≤ a) (a1 : a < 2147483648) (x0 : -2147483648 ≤ x) (x1 : x < 2147483648) :
    ∃ f k : Int, f_X8_payFault (zI a) (zI x) imT imdP indP imdS imdB imdO imdR imdA indA mP nP mS mB mO mR mA nA mH hs = some (zI f) ∧ f_X9_payThrows (zI a) (zI x) mM nM = some (zI k) ∧ FK f k ∧ (f = 0 → (0 ≤ a ∧ a < v 1881) ∧ (1 ≤ x ∧ x ≤ 1000000) ∧ -1000000 ≤ v (515 + a) - x) := by
  obtain ⟨wr, w0, w1, R⟩ := R
  have hIB := h.1.2.1
  have hb := hIB.1
  have e1 := s_hasB R.2.2.1 hIB a0 a1
  have f1 := m_isBoat (mM := mM) hMR hIB a0 a1
  have e2 := s_within (a := x) (b := 1) (c := 1000000) x0 x1 (by omega) (by omega) (by omega) (by omega)
  have f2 := m_in (a := x) (b := 1) (c := 1000000) (by omega) (by omega) (by omega) (by omega) (by omega) (by omega)
  by_cases c1 : 0 ≤ a ∧ a < v 1881
  · rw [if_pos c1] at e1 f1
    by_cases c2 : 1 ≤ x ∧ x ≤ 1000000
    · rw [if_pos c2] at e2 f2
      have g := hIB.2 a c1.1 (by omega)
      have e3 := s_valueIn (a := a) R.2.2.1.2.2.1 (by decide) (by omega) (by show a < (8 : Int); omega)
      by_cases c3 : -1000000 ≤ v (515 + a) - x
      · have l1 : (-1000000 ≤ v (515 + a) - x) = True := eq_true c3
        refine ⟨0, 0, ?_, ?_, by unfold FK; omega, fun _ => ⟨c1, c2, c3⟩⟩
        · simp (disch := omega) only [f_X8_payFault, z_c0, z_c1, z_c2, z_c3, z_c1000000, z_add, z_sub, z_neg, y_neg, z_mul, z_div, z_l, y_i, y_add, y_sub, y_mul, y_div, z_lt, z_le, z_eq, y_c1, y_c2, y_c3, y_c4, y_c5, z_gi, bd1_s, bd2_s, mul30, z_ofNat, e1, e2, e3, l1, eq_self, if_true, if_false, lt_eq, iz1, nz1, nz2, nz3, il0, il1, il2, il3, Int.reduceEq, Int.reduceLE, Int.reduceAdd]
        · simp (disch := omega) only [f_X9_payThrows, z_c0, z_c1, z_c2, z_c3, z_c515, y_c1_, y_c1000000_, z_add, z_sub, z_neg, y_neg, z_mul, z_div, z_l, y_i, y_add, y_sub, y_mul, y_div, z_lt, z_le, z_eq, y_c1, y_c2, y_c3, y_c4, y_c5, z_gi, bd1_s, bd2_s, mul30, z_ofNat, f1, f2, l1, hMR.rd, eq_self, if_true, if_false, lt_eq, iz1, nz1, nz2, nz3, il0, il1, il2, il3, Int.reduceEq, Int.reduceLE, Int.reduceAdd]
      · have l1 : (-1000000 ≤ v (515 + a) - x) = False := eq_false c3
        refine ⟨3, 3, ?_, ?_, by unfold FK; omega, fun r => by omega⟩
        · simp (disch := omega) only [f_X8_payFault, z_c0, z_c1, z_c2, z_c3, z_c1000000, z_add, z_sub, z_neg, y_neg, z_mul, z_div, z_l, y_i, y_add, y_sub, y_mul, y_div, z_lt, z_le, z_eq, y_c1, y_c2, y_c3, y_c4, y_c5, z_gi, bd1_s, bd2_s, mul30, z_ofNat, e1, e2, e3, l1, eq_self, if_true, if_false, lt_eq, iz1, nz1, nz2, nz3, il0, il1, il2, il3, Int.reduceEq, Int.reduceLE, Int.reduceAdd]
        · simp (disch := omega) only [f_X9_payThrows, z_c0, z_c1, z_c2, z_c3, z_c515, y_c1_, y_c1000000_, z_add, z_sub, z_neg, y_neg, z_mul, z_div, z_l, y_i, y_add, y_sub, y_mul, y_div, z_lt, z_le, z_eq, y_c1, y_c2, y_c3, y_c4, y_c5, z_gi, bd1_s, bd2_s, mul30, z_ofNat, f1, f2, l1, hMR.rd, eq_self, if_true, if_false, lt_eq, iz1, nz1, nz2, nz3, il0, il1, il2, il3, Int.reduceEq, Int.reduceLE, Int.reduceAdd]
    · rw [if_neg c2] at e2 f2
      refine ⟨2, 2, ?_, ?_, by unfold FK; omega, fun r => by omega⟩
      · simp (disch := omega) only [f_X8_payFault, z_c0, z_c1, z_c2, z_c3, z_c1000000, z_add, z_sub, z_neg, y_neg, z_mul, z_div, z_l, y_i, y_add, y_sub, y_mul, y_div, z_lt, z_le, z_eq, y_c1, y_c2, y_c3, y_c4, y_c5, z_gi, bd1_s, bd2_s, mul30, z_ofNat, e1, e2, eq_self, if_true, if_false, lt_eq, iz1, nz1, nz2, nz3, il0, il1, il2, il3, Int.reduceEq, Int.reduceLE, Int.reduceAdd]
      · simp (disch := omega) only [f_X9_payThrows, z_c0, z_c1, z_c2, z_c3, z_c515, y_c1_, y_c1000000_, z_add, z_sub, z_neg, y_neg, z_mul, z_div, z_l, y_i, y_add, y_sub, y_mul, y_div, z_lt, z_le, z_eq, y_c1, y_c2, y_c3, y_c4, y_c5, z_gi, bd1_s, bd2_s, mul30, z_ofNat, f1, f2, eq_self, if_true, if_false, lt_eq, iz1, nz1, nz2, nz3, il0, il1, il2, il3, Int.reduceEq, Int.reduceLE, Int.reduceAdd]
  · rw [if_neg c1] at e1 f1
    refine ⟨1, 1, ?_, ?_, by unfold FK; omega, fun r => by omega⟩
    · simp (disch := omega) only [f_X8_payFault, z_c0, z_c1, z_c2, z_c3, z_c1000000, z_add, z_sub, z_neg, y_neg, z_mul, z_div, z_l, y_i, y_add, y_sub, y_mul, y_div, z_lt, z_le, z_eq, y_c1, y_c2, y_c3, y_c4, y_c5, z_gi, bd1_s, bd2_s, mul30, z_ofNat, e1, eq_self, if_true, if_false, lt_eq, iz1, nz1, nz2, nz3, il0, il1, il2, il3, Int.reduceEq, Int.reduceLE, Int.reduceAdd]
    · simp (disch := omega) only [f_X9_payThrows, z_c0, z_c1, z_c2, z_c3, z_c515, y_c1_, y_c1000000_, z_add, z_sub, z_neg, y_neg, z_mul, z_div, z_l, y_i, y_add, y_sub, y_mul, y_div, z_lt, z_le, z_eq, y_c1, y_c2, y_c3, y_c4, y_c5, z_gi, bd1_s, bd2_s, mul30, z_ofNat, f1, eq_self, if_true, if_false, lt_eq, iz1, nz1, nz2, nz3, il0, il1, il2, il3, Int.reduceEq, Int.reduceLE, Int.reduceAdd]
theorem x_order (h : PK v) (R : RW mP nP mS mB mO mR mA nA v) (hMR : MR nM v sv tv) {a x y : Int} (a0 : -2147483648 ≤ a) (a1 : a < 2147483648) (x0 : -2147483648 ≤ x) (x1 : x < 2147483648) (y0 : -2147483648 ≤ y) (y1 : y < 2147483648) :
    ∃ f k : Int, f_X8_orderFault (zI a) (zI x) (zI y) imT imdP indP imdS imdB imdO imdR imdA indA mP nP mS mB mO mR mA nA mH hs = some (zI f) ∧ f_X9_orderThrows (zI a) (zI x) (zI y) mM nM = some (zI k) ∧ FK f k ∧ (f = 0 → (0 ≤ a ∧ a < v 1881) ∧ (1 ≤ x ∧ x ≤ 9999) ∧ (1 ≤ y ∧ y ≤ 200) ∧ (v 1882 < 200 ∧ openC v < 20)) := by
  obtain ⟨wr, w0, w1, R⟩ := R
  have hIB := h.1.2.1
  have hIO := h.1.2.2.1
  have hb := hIB.1
  have hb2 := hIO.1
  have h0 := openC_0 v
  have h20 := hIO.2.1
  have e1 := s_hasB R.2.2.1 hIB a0 a1
  have f1 := m_isBoat (mM := mM) hMR hIB a0 a1
  have e2 := s_within (a := x) (b := 1) (c := 9999) x0 x1 (by omega) (by omega) (by omega) (by omega)
  have f2 := m_in (a := x) (b := 1) (c := 9999) (by omega) (by omega) (by omega) (by omega) (by omega) (by omega)
  have e3 := s_within (a := y) (b := 1) (c := 200) y0 y1 (by omega) (by omega) (by omega) (by omega)
  have f3 := m_in (a := y) (b := 1) (c := 200) (by omega) (by omega) (by omega) (by omega) (by omega) (by omega)
  have e4 := s_isFull R.2.2.2.1 hIO
  have f4 := m_openMany (mM := mM) hMR hIO
  by_cases c1 : 0 ≤ a ∧ a < v 1881
  · rw [if_pos c1] at e1 f1
    by_cases c2 : 1 ≤ x ∧ x ≤ 9999
    · rw [if_pos c2] at e2 f2
      by_cases c3 : 1 ≤ y ∧ y ≤ 200
      · rw [if_pos c3] at e3 f3
        by_cases c4 : v 1882 < 200 ∧ openC v < 20
        · rw [if_pos c4] at e4
          have l1 : (openC v = 20) = False := eq_false (by omega)
          have l2 : (v 1882 = 200) = False := eq_false (by omega)
          refine ⟨0, 0, ?_, ?_, by unfold FK; omega, fun _ => ⟨c1, c2, c3, c4⟩⟩
          · simp (disch := omega) only [f_X8_orderFault, z_c0, z_c1, z_c2, z_c3, z_c200, z_c9999, z_add, z_sub, z_neg, y_neg, z_mul, z_div, z_l, y_i, y_add, y_sub, y_mul, y_div, z_lt, z_le, z_eq, y_c1, y_c2, y_c3, y_c4, y_c5, z_gi, bd1_s, bd2_s, mul30, z_ofNat, e1, e2, e3, e4, eq_self, if_true, if_false, lt_eq, iz1, nz1, nz2, nz3, il0, il1, il2, il3, Int.reduceEq, Int.reduceLE, Int.reduceAdd]
          · simp (disch := omega) only [f_X9_orderThrows, f_X9_orderThrows_b60, z_c0, z_c1, z_c2, z_c3, z_c20, z_c1882, y_c1_, y_c200_, y_c9999_, z_add, z_sub, z_neg, y_neg, z_mul, z_div, z_l, y_i, y_add, y_sub, y_mul, y_div, z_lt, z_le, z_eq, y_c1, y_c2, y_c3, y_c4, y_c5, z_gi, bd1_s, bd2_s, mul30, z_ofNat, f1, f2, f3, f4, l1, l2, hMR.rd, eq_self, if_true, if_false, lt_eq, iz1, nz1, nz2, nz3, il0, il1, il2, il3, Int.reduceEq, Int.reduceLE, Int.reduceAdd]
        · rw [if_neg c4] at e4
          by_cases c5 : openC v = 20
          · have l1 : (openC v = 20) = True := eq_true c5
            refine ⟨3, 3, ?_, ?_, by unfold FK; omega, fun r => by omega⟩
            · simp (disch := omega) only [f_X8_orderFault, z_c0, z_c1, z_c2, z_c3, z_c200, z_c9999, z_add, z_sub, z_neg, y_neg, z_mul, z_div, z_l, y_i, y_add, y_sub, y_mul, y_div, z_lt, z_le, z_eq, y_c1, y_c2, y_c3, y_c4, y_c5, z_gi, bd1_s, bd2_s, mul30, z_ofNat, e1, e2, e3, e4, eq_self, if_true, if_false, lt_eq, iz1, nz1, nz2, nz3, il0, il1, il2, il3, Int.reduceEq, Int.reduceLE, Int.reduceAdd]
            · simp (disch := omega) only [f_X9_orderThrows, f_X9_orderThrows_b60, z_c0, z_c1, z_c2, z_c3, z_c20, z_c1882, y_c1_, y_c200_, y_c9999_, z_add, z_sub, z_neg, y_neg, z_mul, z_div, z_l, y_i, y_add, y_sub, y_mul, y_div, z_lt, z_le, z_eq, y_c1, y_c2, y_c3, y_c4, y_c5, z_gi, bd1_s, bd2_s, mul30, z_ofNat, f1, f2, f3, f4, l1, hMR.rd, eq_self, if_true, if_false, lt_eq, iz1, nz1, nz2, nz3, il0, il1, il2, il3, Int.reduceEq, Int.reduceLE, Int.reduceAdd]
          · have l1 : (openC v = 20) = False := eq_false c5
            have l2 : (v 1882 = 200) = True := eq_true (by omega)
            refine ⟨3, 3, ?_, ?_, by unfold FK; omega, fun r => by omega⟩
            · simp (disch := omega) only [f_X8_orderFault, z_c0, z_c1, z_c2, z_c3, z_c200, z_c9999, z_add, z_sub, z_neg, y_neg, z_mul, z_div, z_l, y_i, y_add, y_sub, y_mul, y_div, z_lt, z_le, z_eq, y_c1, y_c2, y_c3, y_c4, y_c5, z_gi, bd1_s, bd2_s, mul30, z_ofNat, e1, e2, e3, e4, eq_self, if_true, if_false, lt_eq, iz1, nz1, nz2, nz3, il0, il1, il2, il3, Int.reduceEq, Int.reduceLE, Int.reduceAdd]
            · simp (disch := omega) only [f_X9_orderThrows, f_X9_orderThrows_b60, z_c0, z_c1, z_c2, z_c3, z_c20, z_c1882, y_c1_, y_c200_, y_c9999_, z_add, z_sub, z_neg, y_neg, z_mul, z_div, z_l, y_i, y_add, y_sub, y_mul, y_div, z_lt, z_le, z_eq, y_c1, y_c2, y_c3, y_c4, y_c5, z_gi, bd1_s, bd2_s, mul30, z_ofNat, f1, f2, f3, f4, l1, l2, hMR.rd, eq_self, if_true, if_false, lt_eq, iz1, nz1, nz2, nz3, il0, il1, il2, il3, Int.reduceEq, Int.reduceLE, Int.reduceAdd]
      · rw [if_neg c3] at e3 f3
        refine ⟨2, 2, ?_, ?_, by unfold FK; omega, fun r => by omega⟩
        · simp (disch := omega) only [f_X8_orderFault, z_c0, z_c1, z_c2, z_c3, z_c200, z_c9999, z_add, z_sub, z_neg, y_neg, z_mul, z_div, z_l, y_i, y_add, y_sub, y_mul, y_div, z_lt, z_le, z_eq, y_c1, y_c2, y_c3, y_c4, y_c5, z_gi, bd1_s, bd2_s, mul30, z_ofNat, e1, e2, e3, eq_self, if_true, if_false, lt_eq, iz1, nz1, nz2, nz3, il0, il1, il2, il3, Int.reduceEq, Int.reduceLE, Int.reduceAdd]
        · simp (disch := omega) only [f_X9_orderThrows, f_X9_orderThrows_b60, z_c0, z_c1, z_c2, z_c3, z_c20, z_c1882, y_c1_, y_c200_, y_c9999_, z_add, z_sub, z_neg, y_neg, z_mul, z_div, z_l, y_i, y_add, y_sub, y_mul, y_div, z_lt, z_le, z_eq, y_c1, y_c2, y_c3, y_c4, y_c5, z_gi, bd1_s, bd2_s, mul30, z_ofNat, f1, f2, f3, eq_self, if_true, if_false, lt_eq, iz1, nz1, nz2, nz3, il0, il1, il2, il3, Int.reduceEq, Int.reduceLE, Int.reduceAdd]
    · rw [if_neg c2] at e2 f2
      refine ⟨2, 2, ?_, ?_, by unfold FK; omega, fun r => by omega⟩
      · simp (disch := omega) only [f_X8_orderFault, z_c0, z_c1, z_c2, z_c3, z_c200, z_c9999, z_add, z_sub, z_neg, y_neg, z_mul, z_div, z_l, y_i, y_add, y_sub, y_mul, y_div, z_lt, z_le, z_eq, y_c1, y_c2, y_c3, y_c4, y_c5, z_gi, bd1_s, bd2_s, mul30, z_ofNat, e1, e2, eq_self, if_true, if_false, lt_eq, iz1, nz1, nz2, nz3, il0, il1, il2, il3, Int.reduceEq, Int.reduceLE, Int.reduceAdd]
      · simp (disch := omega) only [f_X9_orderThrows, f_X9_orderThrows_b60, z_c0, z_c1, z_c2, z_c3, z_c20, z_c1882, y_c1_, y_c200_, y_c9999_, z_add, z_sub, z_neg, y_neg, z_mul, z_div, z_l, y_i, y_add, y_sub, y_mul, y_div, z_lt, z_le, z_eq, y_c1, y_c2, y_c3, y_c4, y_c5, z_gi, bd1_s, bd2_s, mul30, z_ofNat, f1, f2, eq_self, if_true, if_false, lt_eq, iz1, nz1, nz2, nz3, il0, il1, il2, il3, Int.reduceEq, Int.reduceLE, Int.reduceAdd]
  · rw [if_neg c1] at e1 f1
    refine ⟨1, 1, ?_, ?_, by unfold FK; omega, fun r => by omega⟩
    · simp (disch := omega) only [f_X8_orderFault, z_c0, z_c1, z_c2, z_c3, z_c200, z_c9999, z_add, z_sub, z_neg, y_neg, z_mul, z_div, z_l, y_i, y_add, y_sub, y_mul, y_div, z_lt, z_le, z_eq, y_c1, y_c2, y_c3, y_c4, y_c5, z_gi, bd1_s, bd2_s, mul30, z_ofNat, e1, eq_self, if_true, if_false, lt_eq, iz1, nz1, nz2, nz3, il0, il1, il2, il3, Int.reduceEq, Int.reduceLE, Int.reduceAdd]
    · simp (disch := omega) only [f_X9_orderThrows, f_X9_orderThrows_b60, z_c0, z_c1, z_c2, z_c3, z_c20, z_c1882, y_c1_, y_c200_, y_c9999_, z_add, z_sub, z_neg, y_neg, z_mul, z_div, z_l, y_i, y_add, y_sub, y_mul, y_div, z_lt, z_le, z_eq, y_c1, y_c2, y_c3, y_c4, y_c5, z_gi, bd1_s, bd2_s, mul30, z_ofNat, f1, eq_self, if_true, if_false, lt_eq, iz1, nz1, nz2, nz3, il0, il1, il2, il3, Int.reduceEq, Int.reduceLE, Int.reduceAdd]
theorem x_move (h : PK v) (R : RW mP nP mS mB mO mR mA nA v) (hMR : MR nM v sv tv) {a x : Int} (a0 : -2147483648 ≤ a) (a1 : a < 2147483648) (x0 : -2147483648 ≤ x) (x1 : x < 2147483648) :
    ∃ f k : Int, f_X8_moveFault (zI a) (zI x) imT imdP indP imdS imdB imdO imdR imdA indA mP nP mS mB mO mR mA nA mH hs = some (zI f) ∧ f_X9_moveThrows (zI a) (zI x) mM nM = some (zI k) ∧ FK f k ∧ (f = 0 → (0 ≤ a ∧ a < v 1880) ∧ (0 ≤ x ∧ x < v 1880) ∧ a ≠ x ∧ 0 < v (47 + a) ∧ v (47 + x) < v (32 + x)) := by
  obtain ⟨wr, w0, w1, R⟩ := R
  have hI := h.1.2.2.2.2.1
  have hb := hI.1
  have e1 := s_hasSilo R.2.1 hI a0 a1
  have f1 := m_isSilo (mM := mM) hMR hI a0 a1
  have e2 := s_hasSilo R.2.1 hI x0 x1
  have f2 := m_isSilo (mM := mM) hMR hI x0 x1
  by_cases c1 : 0 ≤ a ∧ a < v 1880
  · rw [if_pos c1] at e1 f1
    by_cases c2 : 0 ≤ x ∧ x < v 1880
    · rw [if_pos c2] at e2 f2
      by_cases c3 : a = x
      · have l3 : (a = x) = True := eq_true c3
        refine ⟨2, 2, ?_, ?_, by unfold FK; omega, fun r => by omega⟩
        · simp (disch := omega) only [f_X8_moveFault, f_X8_moveFault_b65, z_c0, z_c1, z_c2, z_c3, z_add, z_sub, z_neg, y_neg, z_mul, z_div, z_l, y_i, y_add, y_sub, y_mul, y_div, z_lt, z_le, z_eq, y_c1, y_c2, y_c3, y_c4, y_c5, z_gi, bd1_s, bd2_s, mul30, z_ofNat, e1, e2, l3, eq_self, if_true, if_false, lt_eq, iz1, nz1, nz2, nz3, il0, il1, il2, il3, Int.reduceEq, Int.reduceLE, Int.reduceAdd]
        · simp (disch := omega) only [f_X9_moveThrows, f_X9_moveThrows_b61, z_c0, z_c1, z_c2, z_c3, z_c32, z_c47, y_c0_, z_add, z_sub, z_neg, y_neg, z_mul, z_div, z_l, y_i, y_add, y_sub, y_mul, y_div, z_lt, z_le, z_eq, y_c1, y_c2, y_c3, y_c4, y_c5, z_gi, bd1_s, bd2_s, mul30, z_ofNat, f1, f2, l3, eq_self, if_true, if_false, lt_eq, iz1, nz1, nz2, nz3, il0, il1, il2, il3, Int.reduceEq, Int.reduceLE, Int.reduceAdd]
      · have l3 : (a = x) = False := eq_false c3
        have g1 := hI.sz c1.1 (by omega)
        have g2 := hI.sz c2.1 (by omega)
        have e4 := s_isEmpty R.2.1 hI c1.1 (by omega)
        have e5 := s_hasRoom R.2.1 hI c2.1 (by omega)
        by_cases c4 : v (47 + a) = 0
        · rw [if_pos c4] at e4
          have l4 : (v (47 + a) = 0) = True := eq_true c4
          refine ⟨3, 3, ?_, ?_, by unfold FK; omega, fun r => by omega⟩
          · simp (disch := omega) only [f_X8_moveFault, f_X8_moveFault_b65, z_c0, z_c1, z_c2, z_c3, z_add, z_sub, z_neg, y_neg, z_mul, z_div, z_l, y_i, y_add, y_sub, y_mul, y_div, z_lt, z_le, z_eq, y_c1, y_c2, y_c3, y_c4, y_c5, z_gi, bd1_s, bd2_s, mul30, z_ofNat, e1, e2, l3, e4, eq_self, if_true, if_false, lt_eq, iz1, nz1, nz2, nz3, il0, il1, il2, il3, Int.reduceEq, Int.reduceLE, Int.reduceAdd]
          · simp (disch := omega) only [f_X9_moveThrows, f_X9_moveThrows_b61, z_c0, z_c1, z_c2, z_c3, z_c32, z_c47, y_c0_, z_add, z_sub, z_neg, y_neg, z_mul, z_div, z_l, y_i, y_add, y_sub, y_mul, y_div, z_lt, z_le, z_eq, y_c1, y_c2, y_c3, y_c4, y_c5, z_gi, bd1_s, bd2_s, mul30, z_ofNat, f1, f2, l3, l4, hMR.rd, eq_self, if_true, if_false, lt_eq, iz1, nz1, nz2, nz3, il0, il1, il2, il3, Int.reduceEq, Int.reduceLE, Int.reduceAdd]
        · rw [if_neg c4] at e4
          have l4 : (v (47 + a) = 0) = False := eq_false c4
          by_cases c5 : v (47 + x) < v (32 + x)
          · rw [if_pos c5] at e5
            have l5 : (v (47 + x) = v (32 + x)) = False := eq_false (by omega)
            refine ⟨0, 0, ?_, ?_, by unfold FK; omega, fun _ => ⟨c1, c2, c3, by omega, c5⟩⟩
            · simp (disch := omega) only [f_X8_moveFault, f_X8_moveFault_b65, z_c0, z_c1, z_c2, z_c3, z_add, z_sub, z_neg, y_neg, z_mul, z_div, z_l, y_i, y_add, y_sub, y_mul, y_div, z_lt, z_le, z_eq, y_c1, y_c2, y_c3, y_c4, y_c5, z_gi, bd1_s, bd2_s, mul30, z_ofNat, e1, e2, l3, e4, e5, eq_self, if_true, if_false, lt_eq, iz1, nz1, nz2, nz3, il0, il1, il2, il3, Int.reduceEq, Int.reduceLE, Int.reduceAdd]
            · simp (disch := omega) only [f_X9_moveThrows, f_X9_moveThrows_b61, z_c0, z_c1, z_c2, z_c3, z_c32, z_c47, y_c0_, z_add, z_sub, z_neg, y_neg, z_mul, z_div, z_l, y_i, y_add, y_sub, y_mul, y_div, z_lt, z_le, z_eq, y_c1, y_c2, y_c3, y_c4, y_c5, z_gi, bd1_s, bd2_s, mul30, z_ofNat, f1, f2, l3, l4, l5, hMR.rd, eq_self, if_true, if_false, lt_eq, iz1, nz1, nz2, nz3, il0, il1, il2, il3, Int.reduceEq, Int.reduceLE, Int.reduceAdd]
          · rw [if_neg c5] at e5
            have l5 : (v (47 + x) = v (32 + x)) = True := eq_true (by omega)
            refine ⟨3, 3, ?_, ?_, by unfold FK; omega, fun r => by omega⟩
            · simp (disch := omega) only [f_X8_moveFault, f_X8_moveFault_b65, z_c0, z_c1, z_c2, z_c3, z_add, z_sub, z_neg, y_neg, z_mul, z_div, z_l, y_i, y_add, y_sub, y_mul, y_div, z_lt, z_le, z_eq, y_c1, y_c2, y_c3, y_c4, y_c5, z_gi, bd1_s, bd2_s, mul30, z_ofNat, e1, e2, l3, e4, e5, eq_self, if_true, if_false, lt_eq, iz1, nz1, nz2, nz3, il0, il1, il2, il3, Int.reduceEq, Int.reduceLE, Int.reduceAdd]
            · simp (disch := omega) only [f_X9_moveThrows, f_X9_moveThrows_b61, z_c0, z_c1, z_c2, z_c3, z_c32, z_c47, y_c0_, z_add, z_sub, z_neg, y_neg, z_mul, z_div, z_l, y_i, y_add, y_sub, y_mul, y_div, z_lt, z_le, z_eq, y_c1, y_c2, y_c3, y_c4, y_c5, z_gi, bd1_s, bd2_s, mul30, z_ofNat, f1, f2, l3, l4, l5, hMR.rd, eq_self, if_true, if_false, lt_eq, iz1, nz1, nz2, nz3, il0, il1, il2, il3, Int.reduceEq, Int.reduceLE, Int.reduceAdd]
    · rw [if_neg c2] at e2 f2
      refine ⟨1, 1, ?_, ?_, by unfold FK; omega, fun r => by omega⟩
      · simp (disch := omega) only [f_X8_moveFault, f_X8_moveFault_b65, z_c0, z_c1, z_c2, z_c3, z_add, z_sub, z_neg, y_neg, z_mul, z_div, z_l, y_i, y_add, y_sub, y_mul, y_div, z_lt, z_le, z_eq, y_c1, y_c2, y_c3, y_c4, y_c5, z_gi, bd1_s, bd2_s, mul30, z_ofNat, e1, e2, eq_self, if_true, if_false, lt_eq, iz1, nz1, nz2, nz3, il0, il1, il2, il3, Int.reduceEq, Int.reduceLE, Int.reduceAdd]
      · simp (disch := omega) only [f_X9_moveThrows, f_X9_moveThrows_b61, z_c0, z_c1, z_c2, z_c3, z_c32, z_c47, y_c0_, z_add, z_sub, z_neg, y_neg, z_mul, z_div, z_l, y_i, y_add, y_sub, y_mul, y_div, z_lt, z_le, z_eq, y_c1, y_c2, y_c3, y_c4, y_c5, z_gi, bd1_s, bd2_s, mul30, z_ofNat, f1, f2, eq_self, if_true, if_false, lt_eq, iz1, nz1, nz2, nz3, il0, il1, il2, il3, Int.reduceEq, Int.reduceLE, Int.reduceAdd]
  · rw [if_neg c1] at e1 f1
    refine ⟨1, 1, ?_, ?_, by unfold FK; omega, fun r => by omega⟩
    · simp (disch := omega) only [f_X8_moveFault, f_X8_moveFault_b65, z_c0, z_c1, z_c2, z_c3, z_add, z_sub, z_neg, y_neg, z_mul, z_div, z_l, y_i, y_add, y_sub, y_mul, y_div, z_lt, z_le, z_eq, y_c1, y_c2, y_c3, y_c4, y_c5, z_gi, bd1_s, bd2_s, mul30, z_ofNat, e1, eq_self, if_true, if_false, lt_eq, iz1, nz1, nz2, nz3, il0, il1, il2, il3, Int.reduceEq, Int.reduceLE, Int.reduceAdd]
    · simp (disch := omega) only [f_X9_moveThrows, f_X9_moveThrows_b61, z_c0, z_c1, z_c2, z_c3, z_c32, z_c47, y_c0_, z_add, z_sub, z_neg, y_neg, z_mul, z_div, z_l, y_i, y_add, y_sub, y_mul, y_div, z_lt, z_le, z_eq, y_c1, y_c2, y_c3, y_c4, y_c5, z_gi, bd1_s, bd2_s, mul30, z_ofNat, f1, eq_self, if_true, if_false, lt_eq, iz1, nz1, nz2, nz3, il0, il1, il2, il3, Int.reduceEq, Int.reduceLE, Int.reduceAdd]
end
