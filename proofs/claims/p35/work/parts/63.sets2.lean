/-! the other settings -/
theorem m_isBoat {mM : Mem} {nM : MemL} {sv tv : Nat → Int64} {T : Int} {v : VI} (hM : MR nM v sv tv) (hI : IB T v) {a : Int} (h1 : -2147483648 ≤ a) (h2 : a < 2147483648) : f_X9_isBoat (zI a) mM nM = some (zI (if 0 ≤ a ∧ a < v 1881 then 1 else 0)) := by
  have hb := hI.1
  simp (disch := omega) only [f_X9_isBoat, z_c1881, y_c0_, y_c1_, z_add, z_sub, z_neg, y_neg, z_mul, z_div, z_l, y_i, y_add, y_sub, y_mul, y_div, z_lt, z_le, z_eq, y_c1, y_c2, y_c3, y_c4, y_c5, z_gi, bd1_s, bd2_s, mul30, z_ofNat, lt_eq, hM.rd, m_in]
  rw [gb_s zI01]
  repeat' split
  all_goals first | rfl | (exfalso; omega)
theorem m_isOrder {mM : Mem} {nM : MemL} {sv tv : Nat → Int64} {v : VI} (hM : MR nM v sv tv) (hI : IOr v) {a : Int} (h1 : -2147483648 ≤ a) (h2 : a < 2147483648) : f_X9_isOrder (zI a) mM nM = some (zI (if 0 ≤ a ∧ a < v 1882 then 1 else 0)) := by
  have hb := hI.1
  simp (disch := omega) only [f_X9_isOrder, z_c1882, y_c0_, y_c1_, z_add, z_sub, z_neg, y_neg, z_mul, z_div, z_l, y_i, y_add, y_sub, y_mul, y_div, z_lt, z_le, z_eq, y_c1, y_c2, y_c3, y_c4, y_c5, z_gi, bd1_s, bd2_s, mul30, z_ofNat, lt_eq, hM.rd, m_in]
  rw [gb_s zI01]
  repeat' split
  all_goals first | rfl | (exfalso; omega)
theorem RPs.up0 {mP : Mem} {nP : MemL} {v : VI} (h : RPs mP nP v) {i x : Int} (i0 : 0 ≤ i) (i1 : i < 8) : RPs (wrI mP 0 (upd (mP 0) (zI i).toNatClampNeg (zI x))) nP (upV v i x) := by
  obtain ⟨h1, h2, h3, h4, h5, h6, h7, h8⟩ := h
  refine ⟨?_, ?_, ?_, ?_, ?_, ?_, ?_, ?_⟩
  · rw [wrI_same]; exact h1.wr i0 i1 (by omega) x
  · rw [wrI_ne _ _ (by decide)]; exact h2.cg fun k a b => upV_ne _ _ (by omega)
  · rw [wrI_ne _ _ (by decide), upV_ne _ _ (by omega)]; exact h3
  · rw [wrI_ne _ _ (by decide), upV_ne _ _ (by omega)]; exact h4
  · rw [wrI_ne _ _ (by decide), upV_ne _ _ (by omega)]; exact h5
  · rw [wrI_ne _ _ (by decide), upV_ne _ _ (by omega)]; exact h6
  · rw [upV_ne _ _ (by omega)]; exact h7
  · rw [upV_ne _ _ (by omega)]; exact h8
theorem RPs.up8 {mP : Mem} {nP : MemL} {v : VI} (h : RPs mP nP v) {i x : Int} (i0 : 0 ≤ i) (i1 : i < 24) : RPs (wrI mP 1 (upd (mP 1) (zI i).toNatClampNeg (zI x))) nP (upV v (8 + i) x) := by
  obtain ⟨h1, h2, h3, h4, h5, h6, h7, h8⟩ := h
  refine ⟨?_, ?_, ?_, ?_, ?_, ?_, ?_, ?_⟩
  · rw [wrI_ne _ _ (by decide)]; exact h1.cg fun k a b => upV_ne _ _ (by omega)
  · rw [wrI_same]
    refine (h2.wr i0 i1 (by omega) x).cg fun k a b => ?_
    show upV v (8 + i) x (8 + k) = upV (fun h => v (8 + h)) i x k
    by_cases q : k = i
    · rw [q, upV_same, upV_same]
    · rw [upV_ne _ _ (by omega), upV_ne _ _ q]
  · rw [wrI_ne _ _ (by decide), upV_ne _ _ (by omega)]; exact h3
  · rw [wrI_ne _ _ (by decide), upV_ne _ _ (by omega)]; exact h4
  · rw [wrI_ne _ _ (by decide), upV_ne _ _ (by omega)]; exact h5
  · rw [wrI_ne _ _ (by decide), upV_ne _ _ (by omega)]; exact h6
  · rw [upV_ne _ _ (by omega)]; exact h7
  · rw [upV_ne _ _ (by omega)]; exact h8
theorem RPl.upP {wr : Int} {mP : Mem} {nP : MemL} {mS mB mO mR mA : Mem} {nA : MemL} {v : VI} {mP' : Mem} {i x : Int} (R : RPl wr mP nP mS mB mO mR mA nA v) (h : Pl v) (hi : 0 ≤ i ∧ i < 32) (hP : RPs mP' nP (upV v i x)) : RPl wr mP' nP mS mB mO mR mA nA (upV v i x) := by
  obtain ⟨R1, R2, R3, R4, R5, R6⟩ := R
  have e : ∀ j : Int, j ≠ i → upV v i x j = v j := fun j hj => upV_ne _ _ hj
  exact ⟨hP, R2.cg (e _ (by omega)) (e _ (by omega)) (fun k a b => e _ (by omega)) (RS.zz h.2.2.2.2.1), R3.cg (e _ (by omega)) (fun k a b => e _ (by omega)), R4.cg h.2.2.1.1 (e _ (by omega)) (fun k a b => e _ (by omega)), R5.cg (e _ (by omega)) (fun k a b => e _ (by omega)), R6.cg (e _ (by omega)) (fun k a b => e _ (by omega))⟩
/-- the bounds of the settings -/
def hiF (i : Int) : Int := if i = 0 then 200 else if i = 1 then 12 else if i = 2 then 3 else if i = 3 then 1000000 else if i = 4 then 999 else if i = 5 then 999 else if i = 6 then 1000000 else 100
def loF (i : Int) : Int := if i = 0 then 1 else 0
theorem hiF_b (i : Int) : 0 ≤ hiF i ∧ hiF i ≤ 1000000 := by unfold hiF; repeat' split <;> omega
theorem loF_b (i : Int) : 0 ≤ loF i ∧ loF i ≤ 1 := by unfold loF; split <;> omega
theorem s_lo {i : Int} (h0 : 0 ≤ i) (h1 : i ≤ 7) : f_X8_valueAt (zI i) 8 (stV 1) = some (zI (loF i)) ∧ f_X9_least (zI i) = some (zI (loF i)) := by
  have : i = 0 ∨ i = 1 ∨ i = 2 ∨ i = 3 ∨ i = 4 ∨ i = 5 ∨ i = 6 ∨ i = 7 := by omega
  rcases this with rfl | rfl | rfl | rfl | rfl | rfl | rfl | rfl <;> decide
theorem s_hi {i : Int} (h0 : 0 ≤ i) (h1 : i ≤ 7) : f_X8_valueAt (zI i) 8 (stV 2) = some (zI (hiF i)) ∧ f_X9_most (zI i) = some (zI (hiF i)) := by
  have : i = 0 ∨ i = 1 ∨ i = 2 ∨ i = 3 ∨ i = 4 ∨ i = 5 ∨ i = 6 ∨ i = 7 := by omega
  rcases this with rfl | rfl | rfl | rfl | rfl | rfl | rfl | rfl <;> decide
theorem IP.up {v : VI} (h : IP v) {i x : Int} (i0 : 0 ≤ i) (i1 : i ≤ 7) (x0 : loF i ≤ x) (x1 : x ≤ hiF i) : IP (upV v i x) := by
  obtain ⟨h0, h1, h2, h3, h4, h5, h6, h7, h8⟩ := h
  have hi : i = 0 ∨ i = 1 ∨ i = 2 ∨ i = 3 ∨ i = 4 ∨ i = 5 ∨ i = 6 ∨ i = 7 := by omega
  have h8' : ∀ h : Int, 0 ≤ h → h < 24 → -20 ≤ upV v i x (8 + h) ∧ upV v i x (8 + h) ≤ 45 := fun h a b => by rw [upV_ne _ _ (by omega)]; exact h8 h a b
  rcases hi with rfl | rfl | rfl | rfl | rfl | rfl | rfl | rfl
  all_goals (unfold loF at x0; unfold hiF at x1; simp only [Int.reduceEq, if_true, if_false] at x0 x1; refine ⟨?_, ?_, ?_, ?_, ?_, ?_, ?_, ?_, h8'⟩)
  all_goals first | (rw [upV_same]; omega) | (rw [upV_ne _ _ (by decide)]; assumption)
theorem IP.up8 {v : VI} (h : IP v) {i x : Int} (i0 : 0 ≤ i) (i1 : i < 24) (hx : -20 ≤ x ∧ x ≤ 45) : IP (upV v (8 + i) x) := by
  obtain ⟨h0, h1, h2, h3, h4, h5, h6, h7, h8⟩ := h
  refine ⟨?_, ?_, ?_, ?_, ?_, ?_, ?_, ?_, fun k a b => ?_⟩
  · rw [upV_ne _ _ (by omega)]; exact h0
  · rw [upV_ne _ _ (by omega)]; exact h1
  · rw [upV_ne _ _ (by omega)]; exact h2
  · rw [upV_ne _ _ (by omega)]; exact h3
  · rw [upV_ne _ _ (by omega)]; exact h4
  · rw [upV_ne _ _ (by omega)]; exact h5
  · rw [upV_ne _ _ (by omega)]; exact h6
  · rw [upV_ne _ _ (by omega)]; exact h7
  · by_cases q : k = i
    · rw [q, upV_same]; exact hx
    · rw [upV_ne _ _ (by omega)]; exact h8 k a b
section
variable {v : VI} {c : Int} {H : Int → VI} {imT imdP : Mem} {indP : MemL} {imdS imdB imdO imdR imdA : Mem} {indA : MemL} {mP : Mem} {nP : MemL} {mS mB mO mR mA : Mem} {nA : MemL} {mH : Mem} {hs : Nat → PSt} {mM : Mem} {nM : MemL}
theorem p_setTemperature (h : WF v c H) (R : RW mP nP mS mB mO mR mA nA v) (hH : HR c H mH hs) (hM : MS v c H mM nM) {a x : Int} (a0 : -2147483648 ≤ a) (a1 : a < 2147483648) (x0 : -2147483648 ≤ x) (x1 : x < 2147483648) :
    ∃ (k : Nat) (cd r : Int) (v' : VI) (c' : Int) (H' : Int → VI), WF v' c' H' ∧ (k = 0 ∧ cd = 0 ∨ k = 1 ∧ cd = 1 ∨ k = 2 ∧ cd = 2) ∧
    Ev (f_X8_setTemperature (zI a) (zI x) imT imdP indP imdS imdB imdO imdR imdA indA mP nP mS mB mO mR mA nA mH hs) (fun o => o.1 = k ∧ (k = 0 → o.2.1 = zI r) ∧ RW o.2.2.1 nP mS mB mO mR mA nA v' ∧ HR c' H' o.2.2.2.1 o.2.2.2.2) ∧
    Ev (f_X9_setTemperature (zI a) (zI x) mM nM) (MO cd r k v' c' H' mM) := by
  obtain ⟨wr, w0, w1, R⟩ := R
  have hI := h.1.1.2.2.2.2.1
  have e1 := s_within (a := a) (b := 0) (c := 23) a0 a1 (by omega) (by omega) (by omega) (by omega)
  have f1 := m_in (a := a) (b := 0) (c := 23) (by omega) (by omega) (by omega) (by omega) (by omega) (by omega)
  have e2 := s_within (a := x) (b := -20) (c := 45) x0 x1 (by omega) (by omega) (by omega) (by omega)
  have f2 := m_in (a := x) (b := -20) (c := 45) (by omega) (by omega) (by omega) (by omega) (by omega) (by omega)
  by_cases c1 : 0 ≤ a ∧ a ≤ 23
  · rw [if_pos c1] at e1 f1
    by_cases c2 : -20 ≤ x ∧ x ≤ 45
    · rw [if_pos c2] at e2 f2
      have e3 := s_replaceIn (a := a) R.1.2.1 (by decide) (zI x) c1.1 (by show a < (24 : Int); omega)
      simp (disch := omega) only [f_X8_setTemperature, f_X9_setTemperature, z_c0, z_c1, z_c2, z_c8, z_c20, z_c23, z_c45, y_c0_, y_c20_, y_c23_, y_c45_, z_add, z_sub, z_neg, y_neg, z_mul, z_div, z_l, y_i, y_add, y_sub, y_mul, y_div, z_lt, z_le, z_eq, y_c1, y_c2, y_c3, y_c4, y_c5, z_gi, bd1_s, bd2_s, mul30, z_ofNat, e1, f1, e2, f2, e3, nIq_1, nAq_1, eq_self, if_true, if_false, lt_eq, iz1, nz1, nz2, nz3, il0, il1, il2, il3, Int.reduceEq, Int.reduceLE, Int.reduceAdd]
      have hP : PK (upV v (8 + a) x) := h.1.same (h.1.1.up (by omega) (h.1.1.1.up8 c1.1 (by omega) c2) (hI.cg (upV_ne _ _ (by omega)) (upV_ne _ _ (by omega)) (upV_ne _ _ (by omega)) (fun j _ _ => upV_ne _ _ (by omega)))) (upV_ne _ _ (by omega)) (fun j hj => upV_ne _ _ (by omega))
      refine ⟨0, 0, v (8 + a), upV v (8 + a) x, pushN c, pushH c H v, h.push hP, Or.inl ⟨rfl, rfl⟩, ?_, m_change h hM (by omega) (by omega) x0 x1⟩
      refine Ev_bd2 (s_save ⟨wr, w0, w1, R⟩ h.2.1 hH) (fun mH' hs' hH' => ?_)
      exact Ev_some ⟨rfl, fun _ => rfl, ⟨wr, w0, by rw [upV_ne _ _ (by omega)]; exact w1, R.upP h.1.1 (by omega) (R.1.up8 c1.1 (by omega))⟩, hH'⟩
    · rw [if_neg c2] at e2 f2
      simp (disch := omega) only [f_X8_setTemperature, f_X9_setTemperature, z_c0, z_c1, z_c2, z_c8, z_c20, z_c23, z_c45, y_c0_, y_c20_, y_c23_, y_c45_, z_add, z_sub, z_neg, y_neg, z_mul, z_div, z_l, y_i, y_add, y_sub, y_mul, y_div, z_lt, z_le, z_eq, y_c1, y_c2, y_c3, y_c4, y_c5, z_gi, bd1_s, bd2_s, mul30, z_ofNat, e1, f1, e2, f2, nIq_1, nAq_0, eq_self, if_true, if_false, lt_eq, iz1, nz1, nz2, nz3, il0, il1, il2, il3, Int.reduceEq, Int.reduceLE, Int.reduceAdd]
      exact ⟨2, 2, 0, v, c, H, h, Or.inr (Or.inr ⟨rfl, rfl⟩), Ev_some ⟨rfl, fun q => absurd q (by decide), ⟨wr, w0, w1, R⟩, hH⟩, m_fail (by decide) hM _⟩
  · rw [if_neg c1] at e1 f1
    simp (disch := omega) only [f_X8_setTemperature, f_X9_setTemperature, z_c0, z_c1, z_c2, z_c8, z_c20, z_c23, z_c45, y_c0_, y_c20_, y_c23_, y_c45_, z_add, z_sub, z_neg, y_neg, z_mul, z_div, z_l, y_i, y_add, y_sub, y_mul, y_div, z_lt, z_le, z_eq, y_c1, y_c2, y_c3, y_c4, y_c5, z_gi, bd1_s, bd2_s, mul30, z_ofNat, e1, f1, nIq_0, eq_self, if_true, if_false, lt_eq, iz1, nz1, nz2, nz3, il0, il1, il2, il3, Int.reduceEq, Int.reduceLE, Int.reduceAdd]
    exact ⟨1, 1, 0, v, c, H, h, Or.inr (Or.inl ⟨rfl, rfl⟩), Ev_some ⟨rfl, fun q => absurd q (by decide), ⟨wr, w0, w1, R⟩, hH⟩, m_fail (by decide) hM _⟩
theorem p_set (h : WF v c H) (R : RW mP nP mS mB mO mR mA nA v) (hH : HR c H mH hs) (hM : MS v c H mM nM) {a x : Int} (a0 : -2147483648 ≤ a) (a1 : a < 2147483648) (x0 : -2147483648 ≤ x) (x1 : x < 2147483648) :
    ∃ (k : Nat) (cd r : Int) (v' : VI) (c' : Int) (H' : Int → VI), WF v' c' H' ∧ (k = 0 ∧ cd = 0 ∨ k = 1 ∧ cd = 1 ∨ k = 2 ∧ cd = 2) ∧
    Ev (f_X8_set (zI a) (zI x) imT imdP indP imdS imdB imdO imdR imdA indA mP nP mS mB mO mR mA nA mH hs) (fun o => o.1 = k ∧ (k = 0 → o.2.1 = zI r) ∧ RW o.2.2.1 nP mS mB mO mR mA nA v' ∧ HR c' H' o.2.2.2.1 o.2.2.2.2) ∧
    Ev (f_X9_set (zI a) (zI x) mM nM) (MO cd r k v' c' H' mM) := by
  obtain ⟨wr, w0, w1, R⟩ := R
  have hI := h.1.1.2.2.2.2.1
  have e1 := s_within (a := a) (b := 0) (c := 7) a0 a1 (by omega) (by omega) (by omega) (by omega)
  have f1 := m_in (a := a) (b := 0) (c := 7) (by omega) (by omega) (by omega) (by omega) (by omega) (by omega)
  have hb1 := loF_b a
  have hb2 := hiF_b a
  have e2 := s_within (a := x) (b := loF a) (c := hiF a) x0 x1 (by omega) (by omega) (by omega) (by omega)
  have f2 := m_in (a := x) (b := loF a) (c := hiF a) (by omega) (by omega) (by omega) (by omega) (by omega) (by omega)
  by_cases c1 : 0 ≤ a ∧ a ≤ 7
  · rw [if_pos c1] at e1 f1
    obtain ⟨e4, f4⟩ := s_lo c1.1 c1.2
    obtain ⟨e5, f5⟩ := s_hi c1.1 c1.2
    by_cases c2 : loF a ≤ x ∧ x ≤ hiF a
    · rw [if_pos c2] at e2 f2
      have e3 := s_replaceIn (a := a) R.1.1 (by decide) (zI x) c1.1 (by show a < (8 : Int); omega)
      simp (disch := omega) only [f_X8_set, f_X9_set, z_c0, z_c1, z_c2, z_c7, y_c0_, y_c7_, z_add, z_sub, z_neg, y_neg, z_mul, z_div, z_l, y_i, y_add, y_sub, y_mul, y_div, z_lt, z_le, z_eq, y_c1, y_c2, y_c3, y_c4, y_c5, z_gi, bd1_s, bd2_s, mul30, z_ofNat, e1, f1, e2, f2, e3, e4, f4, e5, f5, nIq_1, nAq_1, eq_self, if_true, if_false, lt_eq, iz1, nz1, nz2, nz3, il0, il1, il2, il3, Int.reduceEq, Int.reduceLE, Int.reduceAdd]
      rw [show (0 : Int) + a = a by omega]
      have hP : PK (upV v a x) := h.1.same (h.1.1.up (by omega) (h.1.1.1.up c1.1 c1.2 c2.1 c2.2) (hI.cg (upV_ne _ _ (by omega)) (upV_ne _ _ (by omega)) (upV_ne _ _ (by omega)) (fun j _ _ => upV_ne _ _ (by omega)))) (upV_ne _ _ (by omega)) (fun j hj => upV_ne _ _ (by omega))
      refine ⟨0, 0, v a, upV v a x, pushN c, pushH c H v, h.push hP, Or.inl ⟨rfl, rfl⟩, ?_, m_change h hM (by omega) (by omega) x0 x1⟩
      refine Ev_bd2 (s_save ⟨wr, w0, w1, R⟩ h.2.1 hH) (fun mH' hs' hH' => ?_)
      exact Ev_some ⟨rfl, fun _ => rfl, ⟨wr, w0, by rw [upV_ne _ _ (by omega)]; exact w1, R.upP h.1.1 (by omega) (R.1.up0 c1.1 (by omega))⟩, hH'⟩
    · rw [if_neg c2] at e2 f2
      simp (disch := omega) only [f_X8_set, f_X9_set, z_c0, z_c1, z_c2, z_c7, y_c0_, y_c7_, z_add, z_sub, z_neg, y_neg, z_mul, z_div, z_l, y_i, y_add, y_sub, y_mul, y_div, z_lt, z_le, z_eq, y_c1, y_c2, y_c3, y_c4, y_c5, z_gi, bd1_s, bd2_s, mul30, z_ofNat, e1, f1, e2, f2, e4, f4, e5, f5, nIq_1, nAq_0, eq_self, if_true, if_false, lt_eq, iz1, nz1, nz2, nz3, il0, il1, il2, il3, Int.reduceEq, Int.reduceLE, Int.reduceAdd]
      exact ⟨2, 2, 0, v, c, H, h, Or.inr (Or.inr ⟨rfl, rfl⟩), Ev_some ⟨rfl, fun q => absurd q (by decide), ⟨wr, w0, w1, R⟩, hH⟩, m_fail (by decide) hM _⟩
  · rw [if_neg c1] at e1 f1
    simp (disch := omega) only [f_X8_set, f_X9_set, z_c0, z_c1, z_c2, z_c7, y_c0_, y_c7_, z_add, z_sub, z_neg, y_neg, z_mul, z_div, z_l, y_i, y_add, y_sub, y_mul, y_div, z_lt, z_le, z_eq, y_c1, y_c2, y_c3, y_c4, y_c5, z_gi, bd1_s, bd2_s, mul30, z_ofNat, e1, f1, nIq_0, eq_self, if_true, if_false, lt_eq, iz1, nz1, nz2, nz3, il0, il1, il2, il3, Int.reduceEq, Int.reduceLE, Int.reduceAdd]
    exact ⟨1, 1, 0, v, c, H, h, Or.inr (Or.inl ⟨rfl, rfl⟩), Ev_some ⟨rfl, fun q => absurd q (by decide), ⟨wr, w0, w1, R⟩, hH⟩, m_fail (by decide) hM _⟩
theorem p_setCatch (h : WF v c H) (R : RW mP nP mS mB mO mR mA nA v) (hH : HR c H mH hs) (hM : MS v c H mM nM) {a x : Int} (a0 : -2147483648 ≤ a) (a1 : a < 2147483648) (x0 : -2147483648 ≤ x) (x1 : x < 2147483648) :
    ∃ (k : Nat) (cd r : Int) (v' : VI) (c' : Int) (H' : Int → VI), WF v' c' H' ∧ (k = 0 ∧ cd = 0 ∨ k = 1 ∧ cd = 1 ∨ k = 2 ∧ cd = 2) ∧
    Ev (f_X8_setCatch (zI a) (zI x) imT imdP indP imdS imdB imdO imdR imdA indA mP nP mS mB mO mR mA nA mH hs) (fun o => o.1 = k ∧ (k = 0 → o.2.1 = zI r) ∧ RW mP nP mS o.2.2.1 mO mR mA nA v' ∧ HR c' H' o.2.2.2.1 o.2.2.2.2) ∧
    Ev (f_X9_setCatch (zI a) (zI x) mM nM) (MO cd r k v' c' H' mM) := by
  obtain ⟨wr, w0, w1, R⟩ := R
  have hI := h.1.1.2.2.2.2.1
  have hIB := h.1.1.2.1
  obtain ⟨sv, tv, hMR, -⟩ := (hM.w8 (fun _ => zI 0)).2
  have hb := hIB.1
  have e1 := s_hasB R.2.2.1 hIB a0 a1
  have f1 := m_isBoat (mM := wrI mM 8 (fun _ => zI 0)) hMR hIB a0 a1
  have e2 := s_within (a := x) (b := 0) (c := 1000000) x0 x1 (by omega) (by omega) (by omega) (by omega)
  have f2 := m_in (a := x) (b := 0) (c := 1000000) (by omega) (by omega) (by omega) (by omega) (by omega) (by omega)
  by_cases c1 : 0 ≤ a ∧ a < v 1881
  · rw [if_pos c1] at e1 f1
    by_cases c2 : 0 ≤ x ∧ x ≤ 1000000
    · rw [if_pos c2] at e2 f2
      have e3 := s_replaceIn (a := a) R.2.2.1.2.1 (by decide) (zI x) c1.1 (by show a < (8 : Int); omega)
      simp (disch := omega) only [f_X8_setCatch, f_X8_catchFault, f_X9_setCatch, f_X9_catchThrows, z_c0, z_c1, z_c2, z_c507, z_c1000000, y_c0_, y_c1000000_, z_add, z_sub, z_neg, y_neg, z_mul, z_div, z_l, y_i, y_add, y_sub, y_mul, y_div, z_lt, z_le, z_eq, y_c1, y_c2, y_c3, y_c4, y_c5, z_gi, bd1_s, bd2_s, mul30, z_ofNat, e1, f1, e2, f2, e3, rfq_0, eq_self, if_true, if_false, lt_eq, iz1, nz1, nz2, nz3, il0, il1, il2, il3, Int.reduceEq, Int.reduceLE, Int.reduceAdd]
      have o : ∀ j : Int, j ≠ 507 + a → upV v (507 + a) x j = v j := fun j hj => upV_ne _ _ hj
      have hP : PK (upV v (507 + a) x) := by
        obtain ⟨g1, g2, g3, g4, g5, g6, g7, g8, g9, g10, g11⟩ := h.1.1
        refine ⟨⟨g1.cg fun j _ _ => o j (by omega), ?_, g3.cg (o _ (by omega)) (o _ (by omega)) (fun j _ _ => o j (by omega)), g4.cg (o _ (by omega)) (fun j _ _ => o j (by omega)), ?_, ?_, ?_, ?_, ?_, ?_, ?_⟩, ?_⟩
        · rw [o 1875 (by omega)]
          refine ⟨by rw [o 1881 (by omega)]; exact hb, fun b b0 b1 => ?_⟩
          rw [o (515 + b) (by omega), o (523 + b) (by omega), o 1881 (by omega)]
          refine ⟨?_, (g2.2 b b0 b1).2⟩
          by_cases q : b = a
          · rw [q, upV_same]; exact c2
          · rw [o _ (by omega)]; exact (g2.2 b b0 b1).1
        · rw [o 1875 (by omega)]; exact g5.cg (o _ (by omega)) (o _ (by omega)) (o _ (by omega)) (fun j _ _ => o j (by omega))
        · rw [o 1875 (by omega)]; exact g6
        · rw [o 1885 (by omega)]; exact g7
        · rw [o 1878 (by omega), o 52 (by omega), o 53 (by omega), o 54 (by omega), o 55 (by omega), o 56 (by omega)]; exact g8
        · rw [o 1875 (by omega), o 1876 (by omega)]; exact g9
        · rw [o 1875 (by omega), o 1877 (by omega)]; exact g10
        · rw [o 1875 (by omega), o 1879 (by omega)]; exact g11
        · exact ⟨by rw [o 1875 (by omega)]; exact h.1.2.1, h.1.2.2.cg hI g4.1.2 fun j hj => o j (by omega)⟩
      refine ⟨0, 0, v (507 + a), upV v (507 + a) x, pushN c, pushH c H v, h.push hP, Or.inl ⟨rfl, rfl⟩, ?_, m_change h hM (by omega) (by omega) x0 x1⟩
      refine Ev_bd2 (s_save ⟨wr, w0, w1, R⟩ h.2.1 hH) (fun mH' hs' hH' => ?_)
      refine Ev_some ⟨rfl, fun _ => rfl, ⟨wr, w0, by rw [o _ (by omega)]; exact w1, ?_⟩, hH'⟩
      obtain ⟨R1, R2, R3, R4, R5, R6⟩ := R
      refine ⟨R1.cg (fun k a b => o _ (by omega)) (fun k a b _ _ _ _ => o _ (by omega)), R2.cg (o _ (by omega)) (o _ (by omega)) (fun k a b => o _ (by omega)) (RS.zz hI), ?_, R4.cg h.1.1.2.2.1.1 (o _ (by omega)) (fun k a b => o _ (by omega)), R5.cg (o _ (by omega)) (fun k a b => o _ (by omega)), R6.cg (o _ (by omega)) (fun k a b => o _ (by omega))⟩
      obtain ⟨q1, q2, q3, q4⟩ := R3
      refine ⟨?_, ?_, ?_, ?_⟩
      · show wrI mB 1 (upd (mB 1) (zI a).toNatClampNeg (zI x)) 0 0 = _
        rw [wrI_ne _ _ (by decide), o _ (by omega)]; exact q1
      · show Row 8 (wrI mB 1 (upd (mB 1) (zI a).toNatClampNeg (zI x)) 1) _
        rw [wrI_same]
        refine (q2.wr c1.1 (by omega) (by omega) x).cg fun k b1 b2 => ?_
        show upV v (507 + a) x (507 + k) = upV (fun b => v (507 + b)) a x k
        by_cases q : k = a
        · rw [q, upV_same, upV_same]
        · rw [upV_ne _ _ (by omega), upV_ne _ _ q]
      · show Row 8 (wrI mB 1 (upd (mB 1) (zI a).toNatClampNeg (zI x)) 2) _
        rw [wrI_ne _ _ (by decide)]; exact q3.cg fun k _ _ => o _ (by omega)
      · show Row 8 (wrI mB 1 (upd (mB 1) (zI a).toNatClampNeg (zI x)) 3) _
        rw [wrI_ne _ _ (by decide)]; exact q4.cg fun k _ _ => o _ (by omega)
    · rw [if_neg c2] at e2 f2
      simp (disch := omega) only [f_X8_setCatch, f_X8_catchFault, f_X9_setCatch, f_X9_catchThrows, z_c0, z_c1, z_c2, z_c507, z_c1000000, y_c0_, y_c1000000_, z_add, z_sub, z_neg, y_neg, z_mul, z_div, z_l, y_i, y_add, y_sub, y_mul, y_div, z_lt, z_le, z_eq, y_c1, y_c2, y_c3, y_c4, y_c5, z_gi, bd1_s, bd2_s, mul30, z_ofNat, e1, f1, e2, f2, rfq_2, eq_self, if_true, if_false, lt_eq, iz1, nz1, nz2, nz3, il0, il1, il2, il3, Int.reduceEq, Int.reduceLE, Int.reduceAdd]
      exact ⟨2, 2, 0, v, c, H, h, Or.inr (Or.inr ⟨rfl, rfl⟩), Ev_some ⟨rfl, fun q => absurd q (by decide), ⟨wr, w0, w1, R⟩, hH⟩, m_fail (by decide) hM _⟩
  · rw [if_neg c1] at e1 f1
    simp (disch := omega) only [f_X8_setCatch, f_X8_catchFault, f_X9_setCatch, f_X9_catchThrows, z_c0, z_c1, z_c2, z_c507, z_c1000000, y_c0_, y_c1000000_, z_add, z_sub, z_neg, y_neg, z_mul, z_div, z_l, y_i, y_add, y_sub, y_mul, y_div, z_lt, z_le, z_eq, y_c1, y_c2, y_c3, y_c4, y_c5, z_gi, bd1_s, bd2_s, mul30, z_ofNat, e1, f1, rfq_1, eq_self, if_true, if_false, lt_eq, iz1, nz1, nz2, nz3, il0, il1, il2, il3, Int.reduceEq, Int.reduceLE, Int.reduceAdd]
    exact ⟨1, 1, 0, v, c, H, h, Or.inr (Or.inl ⟨rfl, rfl⟩), Ev_some ⟨rfl, fun q => absurd q (by decide), ⟨wr, w0, w1, R⟩, hH⟩, m_fail (by decide) hM _⟩
end
