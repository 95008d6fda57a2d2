/-! the questions -/
def KC (k : Nat) (cd : Int) : Prop := k = 0 ∧ cd = 0 ∨ k = 1 ∧ cd = 1 ∨ k = 2 ∧ cd = 2
def QO (cd r : Int) (k : Nat) (mM : Mem) (o : Int32 × Mem) : Prop := o.2 8 0 = zI cd ∧ (k = 0 → o.1 = zI r) ∧ SM mM o.2 ∧ o.2 6 = mM 6
def QOL (cd r : Int) (k : Nat) (mM : Mem) (o : Int64 × Mem) : Prop := o.2 8 0 = zI cd ∧ (k = 0 → o.1 = zL r) ∧ SM mM o.2 ∧ o.2 6 = mM 6
theorem SM.w8 (mM : Mem) (f : Nat → Int32) : SM mM (wrI mM 8 f) ∧ (wrI mM 8 f) 6 = mM 6 := ⟨fun j _ _ j8 => wrI_ne _ _ j8, wrI_ne _ _ (by decide)⟩
theorem SM.w88 (mM : Mem) (f g : Nat → Int32) : SM mM (wrI (wrI mM 8 f) 8 g) ∧ (wrI (wrI mM 8 f) 8 g) 6 = mM 6 := ⟨fun j _ _ j8 => by rw [wrI_ne _ _ j8, wrI_ne _ _ j8], by rw [wrI_ne _ _ (by decide), wrI_ne _ _ (by decide)]⟩
theorem q_ok (mM : Mem) (r : Int) : QO 0 r 0 mM (zI r, wrI mM 8 (fun _ => zI 0)) := ⟨congrFun (wrI_same mM 8 (fun _ => zI 0)) 0, fun _ => rfl, SM.w8 mM _⟩
theorem q_okL (mM : Mem) (r : Int) : QOL 0 r 0 mM (zL r, wrI mM 8 (fun _ => zI 0)) := ⟨congrFun (wrI_same mM 8 (fun _ => zI 0)) 0, fun _ => rfl, SM.w8 mM _⟩
theorem q_fail {mM : Mem} {nM : MemL} {cd r : Int} {k : Nat} (hk : k ≠ 0) (f : Nat → Int32) : Ev (bd2 (f_X9_refuse (zI cd) (wrI mM 8 f) nM) fun r m => some (r, m)) (QO cd r k mM) :=
  Ev_some ⟨congrFun (wrI_same (wrI mM 8 f) 8 (fun _ => zI cd)) 0, fun h => absurd h hk, SM.w88 mM _ _⟩
theorem q_failL {mM : Mem} {nM : MemL} {cd r : Int} {k : Nat} (hk : k ≠ 0) (f : Nat → Int32) : Ev (bd2 (f_X9_refuse (zI cd) (wrI mM 8 f) nM) fun r m => some (r.toInt64, m)) (QOL cd r k mM) :=
  Ev_some ⟨congrFun (wrI_same (wrI mM 8 f) 8 (fun _ => zI cd)) 0, fun h => absurd h hk, SM.w88 mM _ _⟩
theorem m_massIn5 {mM : Mem} {nM : MemL} {sv tv : Nat → Int64} {T : Int} {v : VI} (hM : MR nM v sv tv) (hI : IS T v) {s : Int} (h1 : 0 ≤ s) (h2 : s < v 1880) : ∀ (n fu : Nat) (k A : Int), 0 ≤ k → k + n = v (47 + s) → n < fu →
    f_X9_massIn_L5 (zI s) mM nM fu (zL A) (zI k) = some (zL (A + sumR (fun j => v (207 + (30 * s + j))) n k)) := by
  have hb := hI.1
  have hz := hI.sz (s := s) (by omega) (by omega)
  intro n
  induction n with
  | zero =>
    intro fu k A hk hn hf
    obtain ⟨fu, rfl⟩ : ∃ m, fu = m + 1 := ⟨fu - 1, by omega⟩
    simp (disch := omega) only [f_X9_massIn_L5, z_c0, z_c1, z_c30, z_c47, z_c207, z_add, z_sub, z_neg, y_neg, z_mul, z_div, z_l, y_i, y_add, y_sub, y_mul, y_div, z_lt, z_le, z_eq, y_c1, y_c2, y_c3, y_c4, y_c5, z_gi, bd1_s, bd2_s, mul30, z_ofNat, lt_eq, sumR, Int.add_zero, hM.rd]
    rw [if_pos (by omega)]
  | succ n ih =>
    intro fu k A hk hn hf
    obtain ⟨fu, rfl⟩ : ∃ m, fu = m + 1 := ⟨fu - 1, by omega⟩
    have hi := ih fu (k + 1) (A + v (207 + (30 * s + k))) (by omega) (by omega) (by omega)
    simp (disch := omega) only [f_X9_massIn_L5, z_c0, z_c1, z_c30, z_c47, z_c207, z_add, z_sub, z_neg, y_neg, z_mul, z_div, z_l, y_i, y_add, y_sub, y_mul, y_div, z_lt, z_le, z_eq, y_c1, y_c2, y_c3, y_c4, y_c5, z_gi, bd1_s, bd2_s, mul30, z_ofNat, lt_eq, sumR, hM.rd, Int.add_assoc] at hi ⊢
    rw [if_neg (by omega), hi]
theorem m_massIn {mM : Mem} {nM : MemL} {sv tv : Nat → Int64} {T : Int} {v : VI} (hM : MR nM v sv tv) (hI : IS T v) {s : Int} (h1 : 0 ≤ s) (h2 : s < v 1880) : f_X9_massIn (zI s) mM nM = some (zL (rowSum v 207 s)) := by
  have hb := hI.1
  have hz := hI.sz (s := s) (by omega) (by omega)
  have hi := m_massIn5 (mM := mM) hM hI h1 h2 (v (47 + s)).toNat fuel 0 0 (by omega) (by omega) (fuel_gt (by omega))
  unfold f_X9_massIn
  rw [y_c0_, z_c0, hi, Int.zero_add]
  rfl
section
variable {v : VI} {c : Int} {H : Int → VI} {imT imdP : Mem} {indP : MemL} {imdS imdB imdO imdR imdA : Mem} {indA : MemL} {mP : Mem} {nP : MemL} {mS mB mO mR mA : Mem} {nA : MemL} {mH : Mem} {hs : Nat → PSt} {mM : Mem} {nM : MemL}
theorem q_silo (h : WF v c H) (R : RW mP nP mS mB mO mR mA nA v) (hM : MS v c H mM nM) {a : Int} (a0 : -2147483648 ≤ a) (a1 : a < 2147483648) {x : Int} (x0 : -2147483648 ≤ x) (x1 : x < 2147483648) :
    ∃ (k : Nat) (cd r : Int) (r0 : Int32), KC k cd ∧ f_X8_silo (zI a) (zI x) imT imdP indP imdS imdB imdO imdR imdA indA mP nP mS mB mO mR mA nA mH hs = some (k, r0) ∧ (k = 0 → r0 = zI r) ∧ Ev (f_X9_silo (zI a) (zI x) mM nM) (QO cd r k mM) := by
  obtain ⟨wr, w0, w1, R⟩ := R
  have hI := h.1.1.2.2.2.2.1
  have hIB := h.1.1.2.1
  have hIO := h.1.1.2.2.1
  have hIA := h.1.1.2.2.2.1
  have hIP := h.1.1.1
  have hT := h.1.2
  have hT0 := hI.2.1
  obtain ⟨sv, tv, hMR, -⟩ := (hM.w8 (fun _ => zI 0)).2
  have e1 := s_hasSilo R.2.1 hI a0 a1
  have f1 := m_isSilo (mM := wrI mM 8 (fun _ => zI 0)) hMR hI a0 a1
  have e2 := s_within (a := x) (b := 0) (c := 5) x0 x1 (by omega) (by omega) (by omega) (by omega)
  by_cases c1 : 0 ≤ a ∧ a < v 1880
  · rw [if_pos c1] at e1 f1
    have hb := hI.1
    have rs0 := s_valueIn (a := a) R.2.1.2.2.1 (by decide) (by omega) (by show a < (5 : Int); omega)
    have rs1 := s_valueIn (a := a) R.2.1.2.2.2.1 (by decide) (by omega) (by show a < (5 : Int); omega)
    have rs2 := s_valueIn (a := a) R.2.1.2.2.2.2.1 (by decide) (by omega) (by show a < (5 : Int); omega)
    have rs3 := s_valueIn (a := a) R.2.1.2.2.2.2.2.1 (by decide) (by omega) (by show a < (5 : Int); omega)
    have rs4 := s_valueIn (a := a) R.2.1.2.2.2.2.2.2.1 (by decide) (by omega) (by show a < (5 : Int); omega)
    have sm := s_massOne R.2.1 hI c1.1 c1.2
    have mm := m_massIn (mM := wrI mM 8 (fun _ => zI 0)) hMR hI c1.1 c1.2
    by_cases c2 : 0 ≤ x ∧ x ≤ 5
    · rw [if_pos c2] at e2
      have hx : x = 0 ∨ x = 1 ∨ x = 2 ∨ x = 3 ∨ x = 4 ∨ x = 5 := by omega
      rcases hx with rfl | rfl | rfl | rfl | rfl | rfl
      · simp (disch := omega) only [f_X8_silo, f_X9_silo, f_X6_siloProperty, z_c0, z_c1, z_c2, z_c3, z_c4, z_c5, z_c32, z_c37, z_c42, z_c47, z_c52, z_add, z_sub, z_neg, y_neg, z_mul, z_div, z_l, y_i, y_add, y_sub, y_mul, y_div, z_lt, z_le, z_eq, y_c1, y_c2, y_c3, y_c4, y_c5, z_gi, bd1_s, bd2_s, mul30, z_ofNat, e1, f1, e2, nIq_1, nAq_1, hMR.rd, rs0, eq_self, if_true, if_false, lt_eq, iz1, nz1, nz2, nz3, il0, il1, il2, il3, Int.reduceEq, Int.reduceLE, Int.reduceAdd]
        exact ⟨0, 0, _, _, Or.inl ⟨rfl, rfl⟩, rfl, fun _ => rfl, Ev_some (q_ok mM _)⟩
      · simp (disch := omega) only [f_X8_silo, f_X9_silo, f_X6_siloProperty, z_c0, z_c1, z_c2, z_c3, z_c4, z_c5, z_c32, z_c37, z_c42, z_c47, z_c52, z_add, z_sub, z_neg, y_neg, z_mul, z_div, z_l, y_i, y_add, y_sub, y_mul, y_div, z_lt, z_le, z_eq, y_c1, y_c2, y_c3, y_c4, y_c5, z_gi, bd1_s, bd2_s, mul30, z_ofNat, e1, f1, e2, nIq_1, nAq_1, hMR.rd, rs1, eq_self, if_true, if_false, lt_eq, iz1, nz1, nz2, nz3, il0, il1, il2, il3, Int.reduceEq, Int.reduceLE, Int.reduceAdd]
        exact ⟨0, 0, _, _, Or.inl ⟨rfl, rfl⟩, rfl, fun _ => rfl, Ev_some (q_ok mM _)⟩
      · simp (disch := omega) only [f_X8_silo, f_X9_silo, f_X6_siloProperty, z_c0, z_c1, z_c2, z_c3, z_c4, z_c5, z_c32, z_c37, z_c42, z_c47, z_c52, z_add, z_sub, z_neg, y_neg, z_mul, z_div, z_l, y_i, y_add, y_sub, y_mul, y_div, z_lt, z_le, z_eq, y_c1, y_c2, y_c3, y_c4, y_c5, z_gi, bd1_s, bd2_s, mul30, z_ofNat, e1, f1, e2, nIq_1, nAq_1, hMR.rd, rs2, eq_self, if_true, if_false, lt_eq, iz1, nz1, nz2, nz3, il0, il1, il2, il3, Int.reduceEq, Int.reduceLE, Int.reduceAdd]
        exact ⟨0, 0, _, _, Or.inl ⟨rfl, rfl⟩, rfl, fun _ => rfl, Ev_some (q_ok mM _)⟩
      · simp (disch := omega) only [f_X8_silo, f_X9_silo, f_X6_siloProperty, z_c0, z_c1, z_c2, z_c3, z_c4, z_c5, z_c32, z_c37, z_c42, z_c47, z_c52, z_add, z_sub, z_neg, y_neg, z_mul, z_div, z_l, y_i, y_add, y_sub, y_mul, y_div, z_lt, z_le, z_eq, y_c1, y_c2, y_c3, y_c4, y_c5, z_gi, bd1_s, bd2_s, mul30, z_ofNat, e1, f1, e2, nIq_1, nAq_1, hMR.rd, rs3, eq_self, if_true, if_false, lt_eq, iz1, nz1, nz2, nz3, il0, il1, il2, il3, Int.reduceEq, Int.reduceLE, Int.reduceAdd]
        exact ⟨0, 0, _, _, Or.inl ⟨rfl, rfl⟩, rfl, fun _ => rfl, Ev_some (q_ok mM _)⟩
      · simp (disch := omega) only [f_X8_silo, f_X9_silo, f_X6_siloProperty, z_c0, z_c1, z_c2, z_c3, z_c4, z_c5, z_c32, z_c37, z_c42, z_c47, z_c52, z_add, z_sub, z_neg, y_neg, z_mul, z_div, z_l, y_i, y_add, y_sub, y_mul, y_div, z_lt, z_le, z_eq, y_c1, y_c2, y_c3, y_c4, y_c5, z_gi, bd1_s, bd2_s, mul30, z_ofNat, e1, f1, e2, nIq_1, nAq_1, hMR.rd, sm, mm, eq_self, if_true, if_false, lt_eq, iz1, nz1, nz2, nz3, il0, il1, il2, il3, Int.reduceEq, Int.reduceLE, Int.reduceAdd]
        exact ⟨0, 0, _, _, Or.inl ⟨rfl, rfl⟩, rfl, fun _ => rfl, Ev_some (q_ok mM _)⟩
      · simp (disch := omega) only [f_X8_silo, f_X9_silo, f_X6_siloProperty, z_c0, z_c1, z_c2, z_c3, z_c4, z_c5, z_c32, z_c37, z_c42, z_c47, z_c52, z_add, z_sub, z_neg, y_neg, z_mul, z_div, z_l, y_i, y_add, y_sub, y_mul, y_div, z_lt, z_le, z_eq, y_c1, y_c2, y_c3, y_c4, y_c5, z_gi, bd1_s, bd2_s, mul30, z_ofNat, e1, f1, e2, nIq_1, nAq_1, hMR.rd, rs4, eq_self, if_true, if_false, lt_eq, iz1, nz1, nz2, nz3, il0, il1, il2, il3, Int.reduceEq, Int.reduceLE, Int.reduceAdd]
        exact ⟨0, 0, _, _, Or.inl ⟨rfl, rfl⟩, rfl, fun _ => rfl, Ev_some (q_ok mM _)⟩
    · rw [if_neg c2] at e2
      have n0 : (x = 0) = False := eq_false (by omega)
      have n1 : (x = 1) = False := eq_false (by omega)
      have n2 : (x = 2) = False := eq_false (by omega)
      have n3 : (x = 3) = False := eq_false (by omega)
      have n4 : (x = 4) = False := eq_false (by omega)
      have n5 : (x = 5) = False := eq_false (by omega)
      simp (disch := omega) only [f_X8_silo, f_X9_silo, f_X6_siloProperty, z_c0, z_c1, z_c2, z_c3, z_c4, z_c5, z_c32, z_c37, z_c42, z_c47, z_c52, z_add, z_sub, z_neg, y_neg, z_mul, z_div, z_l, y_i, y_add, y_sub, y_mul, y_div, z_lt, z_le, z_eq, y_c1, y_c2, y_c3, y_c4, y_c5, z_gi, bd1_s, bd2_s, mul30, z_ofNat, e1, f1, e2, nIq_1, nAq_0, hMR.rd, n0, n1, n2, n3, n4, n5, eq_self, if_true, if_false, lt_eq, iz1, nz1, nz2, nz3, il0, il1, il2, il3, Int.reduceEq, Int.reduceLE, Int.reduceAdd]
      exact ⟨2, 2, 0, _, Or.inr (Or.inr ⟨rfl, rfl⟩), rfl, fun q => absurd q (by decide), q_fail (by decide) _⟩
  · rw [if_neg c1] at e1 f1
    simp (disch := omega) only [f_X8_silo, f_X9_silo, f_X6_siloProperty, z_c0, z_c1, z_c2, z_c3, z_c4, z_c5, z_c32, z_c37, z_c42, z_c47, z_c52, z_add, z_sub, z_neg, y_neg, z_mul, z_div, z_l, y_i, y_add, y_sub, y_mul, y_div, z_lt, z_le, z_eq, y_c1, y_c2, y_c3, y_c4, y_c5, z_gi, bd1_s, bd2_s, mul30, z_ofNat, e1, f1, nIq_0, eq_self, if_true, if_false, lt_eq, iz1, nz1, nz2, nz3, il0, il1, il2, il3, Int.reduceEq, Int.reduceLE, Int.reduceAdd]
    exact ⟨1, 1, 0, _, Or.inr (Or.inl ⟨rfl, rfl⟩), rfl, fun q => absurd q (by decide), q_fail (by decide) _⟩
theorem q_boat (h : WF v c H) (R : RW mP nP mS mB mO mR mA nA v) (hM : MS v c H mM nM) {a : Int} (a0 : -2147483648 ≤ a) (a1 : a < 2147483648) {x : Int} (x0 : -2147483648 ≤ x) (x1 : x < 2147483648) :
    ∃ (k : Nat) (cd r : Int) (r0 : Int32), KC k cd ∧ f_X8_boat (zI a) (zI x) imT imdP indP imdS imdB imdO imdR imdA indA mP nP mS mB mO mR mA nA mH hs = some (k, r0) ∧ (k = 0 → r0 = zI r) ∧ Ev (f_X9_boat (zI a) (zI x) mM nM) (QO cd r k mM) := by
  obtain ⟨wr, w0, w1, R⟩ := R
  have hI := h.1.1.2.2.2.2.1
  have hIB := h.1.1.2.1
  have hIO := h.1.1.2.2.1
  have hIA := h.1.1.2.2.2.1
  have hIP := h.1.1.1
  have hT := h.1.2
  have hT0 := hI.2.1
  obtain ⟨sv, tv, hMR, -⟩ := (hM.w8 (fun _ => zI 0)).2
  have e1 := s_hasB R.2.2.1 hIB a0 a1
  have f1 := m_isBoat (mM := wrI mM 8 (fun _ => zI 0)) hMR hIB a0 a1
  have e2 := s_within (a := x) (b := 0) (c := 3) x0 x1 (by omega) (by omega) (by omega) (by omega)
  by_cases c1 : 0 ≤ a ∧ a < v 1881
  · rw [if_pos c1] at e1 f1
    have hb := hIB.1
    have rs0 := s_valueIn (a := a) R.2.2.1.2.1 (by decide) (by omega) (by show a < (8 : Int); omega)
    have rs1 := s_valueIn (a := a) R.2.2.1.2.2.1 (by decide) (by omega) (by show a < (8 : Int); omega)
    have rs2 := s_valueIn (a := a) R.2.2.1.2.2.2 (by decide) (by omega) (by show a < (8 : Int); omega)
    have sm := s_openOf R.2.2.2.1 hIO a0 a1 hb.2
    have mm := m_openOf (mM := wrI mM 8 (fun _ => zI 0)) hMR hIO a0 a1 hb.2
    by_cases c2 : 0 ≤ x ∧ x ≤ 3
    · rw [if_pos c2] at e2
      have hx : x = 0 ∨ x = 1 ∨ x = 2 ∨ x = 3 := by omega
      rcases hx with rfl | rfl | rfl | rfl
      · simp (disch := omega) only [f_X8_boat, f_X9_boat, f_X1_property, z_c0, z_c1, z_c2, z_c3, z_c507, z_c515, z_c523, z_add, z_sub, z_neg, y_neg, z_mul, z_div, z_l, y_i, y_add, y_sub, y_mul, y_div, z_lt, z_le, z_eq, y_c1, y_c2, y_c3, y_c4, y_c5, z_gi, bd1_s, bd2_s, mul30, z_ofNat, e1, f1, e2, nIq_1, nAq_1, hMR.rd, rs0, eq_self, if_true, if_false, lt_eq, iz1, nz1, nz2, nz3, il0, il1, il2, il3, Int.reduceEq, Int.reduceLE, Int.reduceAdd]
        exact ⟨0, 0, _, _, Or.inl ⟨rfl, rfl⟩, rfl, fun _ => rfl, Ev_some (q_ok mM _)⟩
      · simp (disch := omega) only [f_X8_boat, f_X9_boat, f_X1_property, z_c0, z_c1, z_c2, z_c3, z_c507, z_c515, z_c523, z_add, z_sub, z_neg, y_neg, z_mul, z_div, z_l, y_i, y_add, y_sub, y_mul, y_div, z_lt, z_le, z_eq, y_c1, y_c2, y_c3, y_c4, y_c5, z_gi, bd1_s, bd2_s, mul30, z_ofNat, e1, f1, e2, nIq_1, nAq_1, hMR.rd, rs1, eq_self, if_true, if_false, lt_eq, iz1, nz1, nz2, nz3, il0, il1, il2, il3, Int.reduceEq, Int.reduceLE, Int.reduceAdd]
        exact ⟨0, 0, _, _, Or.inl ⟨rfl, rfl⟩, rfl, fun _ => rfl, Ev_some (q_ok mM _)⟩
      · simp (disch := omega) only [f_X8_boat, f_X9_boat, f_X1_property, z_c0, z_c1, z_c2, z_c3, z_c507, z_c515, z_c523, z_add, z_sub, z_neg, y_neg, z_mul, z_div, z_l, y_i, y_add, y_sub, y_mul, y_div, z_lt, z_le, z_eq, y_c1, y_c2, y_c3, y_c4, y_c5, z_gi, bd1_s, bd2_s, mul30, z_ofNat, e1, f1, e2, nIq_1, nAq_1, hMR.rd, rs2, eq_self, if_true, if_false, lt_eq, iz1, nz1, nz2, nz3, il0, il1, il2, il3, Int.reduceEq, Int.reduceLE, Int.reduceAdd]
        exact ⟨0, 0, _, _, Or.inl ⟨rfl, rfl⟩, rfl, fun _ => rfl, Ev_some (q_ok mM _)⟩
      · simp (disch := omega) only [f_X8_boat, f_X9_boat, f_X1_property, z_c0, z_c1, z_c2, z_c3, z_c507, z_c515, z_c523, z_add, z_sub, z_neg, y_neg, z_mul, z_div, z_l, y_i, y_add, y_sub, y_mul, y_div, z_lt, z_le, z_eq, y_c1, y_c2, y_c3, y_c4, y_c5, z_gi, bd1_s, bd2_s, mul30, z_ofNat, e1, f1, e2, nIq_1, nAq_1, hMR.rd, sm, mm, eq_self, if_true, if_false, lt_eq, iz1, nz1, nz2, nz3, il0, il1, il2, il3, Int.reduceEq, Int.reduceLE, Int.reduceAdd]
        exact ⟨0, 0, _, _, Or.inl ⟨rfl, rfl⟩, rfl, fun _ => rfl, Ev_some (q_ok mM _)⟩
    · rw [if_neg c2] at e2
      have n0 : (x = 0) = False := eq_false (by omega)
      have n1 : (x = 1) = False := eq_false (by omega)
      have n2 : (x = 2) = False := eq_false (by omega)
      have n3 : (x = 3) = False := eq_false (by omega)
      simp (disch := omega) only [f_X8_boat, f_X9_boat, f_X1_property, z_c0, z_c1, z_c2, z_c3, z_c507, z_c515, z_c523, z_add, z_sub, z_neg, y_neg, z_mul, z_div, z_l, y_i, y_add, y_sub, y_mul, y_div, z_lt, z_le, z_eq, y_c1, y_c2, y_c3, y_c4, y_c5, z_gi, bd1_s, bd2_s, mul30, z_ofNat, e1, f1, e2, nIq_1, nAq_0, hMR.rd, n0, n1, n2, n3, eq_self, if_true, if_false, lt_eq, iz1, nz1, nz2, nz3, il0, il1, il2, il3, Int.reduceEq, Int.reduceLE, Int.reduceAdd]
      exact ⟨2, 2, 0, _, Or.inr (Or.inr ⟨rfl, rfl⟩), rfl, fun q => absurd q (by decide), q_fail (by decide) _⟩
  · rw [if_neg c1] at e1 f1
    simp (disch := omega) only [f_X8_boat, f_X9_boat, f_X1_property, z_c0, z_c1, z_c2, z_c3, z_c507, z_c515, z_c523, z_add, z_sub, z_neg, y_neg, z_mul, z_div, z_l, y_i, y_add, y_sub, y_mul, y_div, z_lt, z_le, z_eq, y_c1, y_c2, y_c3, y_c4, y_c5, z_gi, bd1_s, bd2_s, mul30, z_ofNat, e1, f1, nIq_0, eq_self, if_true, if_false, lt_eq, iz1, nz1, nz2, nz3, il0, il1, il2, il3, Int.reduceEq, Int.reduceLE, Int.reduceAdd]
    exact ⟨1, 1, 0, _, Or.inr (Or.inl ⟨rfl, rfl⟩), rfl, fun q => absurd q (by decide), q_fail (by decide) _⟩
end
