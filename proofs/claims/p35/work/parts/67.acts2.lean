/-! the calls that act: addSilo, addBoat, pay, move -/
/-- a plant at rest, changed where only boats, silos' counts or sums lie -/
theorem IB.one {T : Int} {v v' : VI} (h : IB T v) (e1 : v' 1881 = v 1881) (hx : ∀ b : Int, 0 ≤ b → b < 8 → (0 ≤ v' (507 + b) ∧ v' (507 + b) ≤ 1000000) ∧ (-1000000 ≤ v' (515 + b) ∧ v' (515 + b) ≤ 30970000) ∧ (0 ≤ v' (523 + b) ∧ v' (523 + b) ≤ 30000 * T) ∧ (v 1881 ≤ b → v' (515 + b) = 0 ∧ v' (523 + b) = 0)) : IB T v' :=
  ⟨by rw [e1]; exact h.1, fun b b0 b1 => by rw [e1]; exact hx b b0 b1⟩
def boaV (v : VI) (x : Int) : VI := upV (upV v (507 + v 1881) x) 1881 (v 1881 + 1)
def payV (v : VI) (a x : Int) : VI := upV (upV v (515 + a) (v (515 + a) - x)) 1884 (v 1884 + x)
theorem Pl.boats {v v' : VI} (h : Pl v) (e : ∀ j : Int, ¬ (507 ≤ j ∧ j < 531) → j ≠ 1881 → j ≠ 1884 → v' j = v j) (hB : IB (v 1875) v') (hle : v 1881 ≤ v' 1881) : Pl v' := by
  obtain ⟨h1, h2, h3, h4, h5, h6, h7, h8, h9, h10, h11⟩ := h
  have e0 := h3.1
  have eo := openC_cg (e 1882 (by omega) (by omega) (by omega)) e0 (fun o a b => e _ (by omega) (by omega) (by omega))
  unfold Pl
  rw [e 1875 (by omega) (by omega) (by omega), e 1885 (by omega) (by omega) (by omega), e 1878 (by omega) (by omega) (by omega), e 52 (by omega) (by omega) (by omega), e 53 (by omega) (by omega) (by omega), e 54 (by omega) (by omega) (by omega), e 55 (by omega) (by omega) (by omega), e 56 (by omega) (by omega) (by omega), e 1876 (by omega) (by omega) (by omega), e 1877 (by omega) (by omega) (by omega), e 1879 (by omega) (by omega) (by omega)]
  refine ⟨h1.cg fun j a b => e j (by omega) (by omega) (by omega), hB, ?_, h4.cg (e _ (by omega) (by omega) (by omega)) (fun j a b => e j (by omega) (by omega) (by omega)), h5.cg (e _ (by omega) (by omega) (by omega)) (e _ (by omega) (by omega) (by omega)) (e _ (by omega) (by omega) (by omega)) (fun j a b => e j (by omega) (by omega) (by omega)), h6, h7, h8, h9, h10, h11⟩
  refine ⟨by rw [e 1882 (by omega) (by omega) (by omega)]; exact e0, by rw [eo]; exact h3.2.1, fun o o0 o1 => ?_⟩
  have g := h3.2.2 o o0 o1
  rw [e (931 + o) (by omega) (by omega) (by omega), e (1131 + o) (by omega) (by omega) (by omega), e (1331 + o) (by omega) (by omega) (by omega), e (1531 + o) (by omega) (by omega) (by omega), e (531 + o) (by omega) (by omega) (by omega), e (731 + o) (by omega) (by omega) (by omega), e 1882 (by omega) (by omega) (by omega)]
  omega
theorem RPl.boats {wr : Int} {mP : Mem} {nP nP' : MemL} {mS mB mB' mO mR mA : Mem} {nA : MemL} {v v' : VI} (R : RPl wr mP nP mS mB mO mR mA nA v) (h : Pl v) (e : ∀ j : Int, ¬ (507 ≤ j ∧ j < 531) → j ≠ 1881 → j ≠ 1884 → v' j = v j) (hB : RB mB' v') (e1 : nP' 11 = nP 11) (e2 : nP' 12 0 = zL (v' 1884)) : RPl wr mP nP' mS mB' mO mR mA nA v' := by
  obtain ⟨⟨q1, q2, q3, q4, q5, q6, q7, q8⟩, R2, R3, R4, R5, R6⟩ := R
  refine ⟨⟨q1.cg fun k a b => e _ (by omega) (by omega) (by omega), q2.cg fun k a b => e _ (by omega) (by omega) (by omega), ?_, ?_, ?_, ?_, ?_, e2⟩, R2.cg (e _ (by omega) (by omega) (by omega)) (e _ (by omega) (by omega) (by omega)) (fun k a b => e _ (by omega) (by omega) (by omega)) (RS.zz h.2.2.2.2.1), hB, R4.cg h.2.2.1.1 (e _ (by omega) (by omega) (by omega)) (fun k a b => e _ (by omega) (by omega) (by omega)), R5.cg (e _ (by omega) (by omega) (by omega)) (fun k a b => e _ (by omega) (by omega) (by omega)), R6.cg (e _ (by omega) (by omega) (by omega)) (fun k a b => e _ (by omega) (by omega) (by omega))⟩
  · rw [e _ (by omega) (by omega) (by omega)]; exact q3
  · rw [e _ (by omega) (by omega) (by omega)]; exact q4
  · rw [e _ (by omega) (by omega) (by omega)]; exact q5
  · rw [e _ (by omega) (by omega) (by omega)]; exact q6
  · rw [e1, e _ (by omega) (by omega) (by omega)]; exact q7
theorem boaV_out {v : VI} {x j : Int} (h : 0 ≤ v 1881 ∧ v 1881 < 8) (a : ¬ (507 ≤ j ∧ j < 531)) (b : j ≠ 1881) : boaV v x j = v j := by
  unfold boaV; rw [upV_ne _ _ b, upV_ne _ _ (by omega)]
theorem s_addBoat {mB : Mem} {v : VI} {T : Int} (h : RB mB v) (hI : IB T v) (hlt : v 1881 < 8) (x : Int) : Ev (f_X1_addOne (zI x) mB) (fun q => q.1 = zI (v 1881) ∧ RB q.2 (boaV v x)) := by
  have hb := hI.1
  have hz := (hI.2 (v 1881) hb.1 hlt).2.2.2 (Int.le_refl _)
  obtain ⟨g1, g2, g3, g4⟩ := h
  simp (disch := omega) only [f_X1_addOne, z_c0, z_c1, z_c8, z_add, z_sub, z_neg, y_neg, z_mul, z_div, z_l, y_i, y_add, y_sub, y_mul, y_div, z_lt, z_le, z_eq, y_c1, y_c2, y_c3, y_c4, y_c5, z_gi, bd1_s, bd2_s, mul30, z_ofNat, g1]
  rw [if_pos (by omega)]
  refine Ev_lt ?_
  simp (disch := omega) only [wrI_ne, g1, z_gi]
  refine Ev_lt ?_
  simp (disch := omega) only [wrI_ne, g1, z_gi]
  refine Ev_lt ?_
  simp (disch := omega) only [wrI_ne, g1, z_add]
  refine Ev_lt (Ev_some ⟨?_, ?_⟩)
  · show wrI _ 0 (fun _ => zI (v 1881 + 1)) 0 0 - zI 1 = _
    rw [wrI_same, z_sub]; congr 1; omega
  · unfold RB boaV
    simp (disch := omega) only [wrI_ne, wrI_same, upV_same]
    refine ⟨trivial, ?_, ?_, ?_⟩
    · refine (g2.wr hb.1 hlt (by omega) x).cg fun k a b => ?_
      rw [upV_ne _ _ (by omega)]
      by_cases q : k = v 1881
      · rw [q, upV_same, upV_same]
      · rw [upV_ne _ _ (by omega), upV_ne _ _ q]
    · refine (g3.wr hb.1 hlt (by omega) 0).cg fun k a b => ?_
      rw [upV_ne _ _ (by omega), upV_ne _ _ (by omega)]
      by_cases q : k = v 1881
      · rw [q, upV_same]; exact hz.1
      · rw [upV_ne _ _ q]
    · refine (g4.wr hb.1 hlt (by omega) 0).cg fun k a b => ?_
      rw [upV_ne _ _ (by omega), upV_ne _ _ (by omega)]
      by_cases q : k = v 1881
      · rw [q, upV_same]; exact hz.2
      · rw [upV_ne _ _ q]
section
variable {v : VI} {c : Int} {H : Int → VI} {imT imdP : Mem} {indP : MemL} {imdS imdB imdO imdR imdA : Mem} {indA : MemL} {mP : Mem} {nP : MemL} {mS mB mO mR mA : Mem} {nA : MemL} {mH : Mem} {hs : Nat → PSt} {mM : Mem} {nM : MemL}
theorem p_addBoat (h : WF v c H) (R : RW mP nP mS mB mO mR mA nA v) (hH : HR c H mH hs) (hM : MS v c H mM nM) {a : Int} (a0 : -2147483648 ≤ a) (a1 : a < 2147483648) :
    ∃ (k : Nat) (cd r : Int) (v' : VI) (c' : Int) (H' : Int → VI), WF v' c' H' ∧ KAS k cd ∧
    Ev (f_X8_addBoat (zI a) imT imdP indP imdS imdB imdO imdR imdA indA mP nP mS mB mO mR mA nA mH hs) (fun o => o.1 = k ∧ (k = 0 → o.2.1 = zI r) ∧ RW mP nP mS o.2.2.1 mO mR mA nA v' ∧ HR c' H' o.2.2.2.1 o.2.2.2.2) ∧
    Ev (f_X9_addBoat (zI a) mM nM) (MO cd r k v' c' H' mM) := by
  obtain ⟨wr, w0, w1, R⟩ := R
  have hIB := h.1.1.2.1
  have hb := hIB.1
  obtain ⟨sv, tv, hMR, -⟩ := (hM.w8 (fun _ => zI 0)).2
  have e1 := s_within (a := a) (b := 0) (c := 1000000) a0 a1 (by omega) (by omega) (by omega) (by omega)
  have f1 := m_in (a := a) (b := 0) (c := 1000000) (by omega) (by omega) (by omega) (by omega) (by omega) (by omega)
  have t0 := R.2.2.1.1
  by_cases c1 : 0 ≤ a ∧ a ≤ 1000000
  · rw [if_pos c1] at e1 f1
    by_cases c2 : v 1881 = 8
    · have l1 : (8 ≤ v 1881) = True := eq_true (by omega)
      have l2 : (v 1881 = 8) = True := eq_true c2
      simp (disch := omega) only [f_X8_addBoat, f_X8_addBoat_b30, f_X9_addBoat, z_c0, z_c1, z_c2, z_c8, z_c507, z_c1881, z_c1000000, y_c0_, y_c1_, y_c8_, y_c1000000_, z_add, z_sub, z_neg, y_neg, z_mul, z_div, z_l, y_i, y_add, y_sub, y_mul, y_div, z_lt, z_le, z_eq, y_c1, y_c2, y_c3, y_c4, y_c5, z_gi, bd1_s, bd2_s, mul30, z_ofNat, e1, f1, t0, l1, l2, hMR.rd, nAq_1, nSq_0, eq_self, if_true, if_false, lt_eq, iz1, nz1, nz2, nz3, il0, il1, il2, il3, Int.reduceEq, Int.reduceLE, Int.reduceAdd]
      exact ⟨3, 2, 0, v, c, H, h, Or.inr (Or.inr ⟨rfl, rfl⟩), Ev_some ⟨rfl, fun q => absurd q (by decide), ⟨wr, w0, w1, R⟩, hH⟩, m_fail (by decide) hM _⟩
    · have l1 : (8 ≤ v 1881) = False := eq_false (by omega)
      have l2 : (v 1881 = 8) = False := eq_false c2
      simp (disch := omega) only [f_X8_addBoat, f_X8_addBoat_b30, f_X9_addBoat, z_c0, z_c1, z_c2, z_c8, z_c507, z_c1881, z_c1000000, y_c0_, y_c1_, y_c8_, y_c1000000_, z_add, z_sub, z_neg, y_neg, z_mul, z_div, z_l, y_i, y_add, y_sub, y_mul, y_div, z_lt, z_le, z_eq, y_c1, y_c2, y_c3, y_c4, y_c5, z_gi, bd1_s, bd2_s, mul30, z_ofNat, e1, f1, t0, l1, l2, hMR.rd, nAq_1, nSq_1, eq_self, if_true, if_false, lt_eq, iz1, nz1, nz2, nz3, il0, il1, il2, il3, Int.reduceEq, Int.reduceLE, Int.reduceAdd]
      have eo : ∀ j : Int, ¬ (507 ≤ j ∧ j < 531) → j ≠ 1881 → j ≠ 1884 → boaV v a j = v j := fun j p q _ => boaV_out (by omega) p q
      have e81 : boaV v a 1881 = v 1881 + 1 := by unfold boaV; rw [upV_same]
      have hB' : IB (v 1875) (boaV v a) := by
        refine ⟨by omega, fun b b0 b1 => ?_⟩
        have g := hIB.2 b b0 b1
        have g15 : boaV v a (515 + b) = v (515 + b) := by unfold boaV; rw [upV_ne _ _ (by omega), upV_ne _ _ (by omega)]
        have g23 : boaV v a (523 + b) = v (523 + b) := by unfold boaV; rw [upV_ne _ _ (by omega), upV_ne _ _ (by omega)]
        have g07 : 0 ≤ boaV v a (507 + b) ∧ boaV v a (507 + b) ≤ 1000000 := by
          unfold boaV; rw [upV_ne _ _ (by omega)]
          by_cases q : b = v 1881
          · rw [q, upV_same]; exact c1
          · rw [upV_ne _ _ (by omega)]; exact g.1
        rw [g15, g23, e81]
        exact ⟨g07, g.2.1, g.2.2.1, fun q => g.2.2.2 (by omega)⟩
      have eo2 : ∀ j : Int, j ≠ 507 + v 1881 → j ≠ 1881 → boaV v a j = v j := fun j p q => by unfold boaV; rw [upV_ne _ _ q, upV_ne _ _ p]
      have hP : PK (boaV v a) := h.1.sameB (h.1.1.boats eo hB' (by omega)) (eo _ (by omega) (by omega) (by omega)) (by omega) (fun j hj => eo2 j (by omega) (by omega))
      refine ⟨0, 0, v 1881, boaV v a, pushN c, pushH c H v, h.push hP, Or.inl ⟨rfl, rfl⟩, ?_, ?_⟩
      · refine Ev_bd2 (s_save ⟨wr, w0, w1, R⟩ h.2.1 hH) (fun mH' hs' hH' => ?_)
        refine Ev_bd2 (s_addBoat R.2.2.1 hIB (by omega) a) (fun r m hr => Ev_some ⟨rfl, fun _ => hr.1, ⟨wr, w0, by rw [eo _ (by omega) (by omega) (by omega)]; exact w1, R.boats h.1.1 eo hr.2 rfl ?_⟩, hH'⟩)
        rw [show boaV v a 1884 = v 1884 from boaV_out (by omega) (by omega) (by omega)]
        exact R.1.2.2.2.2.2.2.2
      · refine m_sv h hM (fun m n sv tv h8 hs h6 hMR hHM => ?_)
        simp (disch := omega) only [z_add, z_sub, z_neg, y_neg, z_mul, z_div, z_l, y_i, y_add, y_sub, y_mul, y_div, z_lt, z_le, z_eq, y_c1, y_c2, y_c3, y_c4, y_c5, z_gi, bd1_s, bd2_s, mul30, z_ofNat, hMR.rd]
        have hM1 := hMR.wr (a := 507 + v 1881) (by omega) (by omega) a
        have r81 : (upV v (507 + v 1881) a) 1881 = v 1881 := upV_ne _ _ (by omega)
        simp (disch := omega) only [z_add, z_sub, z_neg, y_neg, z_mul, z_div, z_l, y_i, y_add, y_sub, y_mul, y_div, z_lt, z_le, z_eq, y_c1, y_c2, y_c3, y_c4, y_c5, z_gi, bd1_s, bd2_s, mul30, z_ofNat, hM1.rd, r81]
        have hM2 := hM1.wr (a := 1881) (by omega) (by omega) (v 1881 + 1)
        simp (disch := omega) only [z_add, z_sub, z_neg, y_neg, z_mul, z_div, z_l, y_i, y_add, y_sub, y_mul, y_div, z_lt, z_le, z_eq, y_c1, y_c2, y_c3, y_c4, y_c5, z_gi, bd1_s, bd2_s, mul30, z_ofNat, hM2.rd, upV_same]
        exact Ev_some ⟨h8, fun _ => by show zI (v 1881 + 1 - 1) = _; congr 1; omega, hs, h6, sv, tv, hM2, hHM⟩
  · rw [if_neg c1] at e1 f1
    simp (disch := omega) only [f_X8_addBoat, f_X8_addBoat_b30, f_X9_addBoat, z_c0, z_c1, z_c2, z_c8, z_c507, z_c1881, z_c1000000, y_c0_, y_c1_, y_c8_, y_c1000000_, z_add, z_sub, z_neg, y_neg, z_mul, z_div, z_l, y_i, y_add, y_sub, y_mul, y_div, z_lt, z_le, z_eq, y_c1, y_c2, y_c3, y_c4, y_c5, z_gi, bd1_s, bd2_s, mul30, z_ofNat, e1, f1, nAq_0, eq_self, if_true, if_false, lt_eq, iz1, nz1, nz2, nz3, il0, il1, il2, il3, Int.reduceEq, Int.reduceLE, Int.reduceAdd]
    exact ⟨2, 1, 0, v, c, H, h, Or.inr (Or.inl ⟨rfl, rfl⟩), Ev_some ⟨rfl, fun q => absurd q (by decide), ⟨wr, w0, w1, R⟩, hH⟩, m_fail (by decide) hM _⟩
theorem p_pay (h : WF v c H) (R : RW mP nP mS mB mO mR mA nA v) (hH : HR c H mH hs) (hM : MS v c H mM nM) {a x : Int} (a0 : -2147483648 ≤ a) (a1 : a < 2147483648) (x0 : -2147483648 ≤ x) (x1 : x < 2147483648) :
    ∃ (k : Nat) (cd r : Int) (v' : VI) (c' : Int) (H' : Int → VI), WF v' c' H' ∧ KIAS k cd ∧
    Ev (f_X8_pay (zI a) (zI x) imT imdP indP imdS imdB imdO imdR imdA indA mP nP mS mB mO mR mA nA mH hs) (fun o => o.1 = k ∧ (k = 0 → o.2.1 = zI r) ∧ RW mP o.2.2.1 mS o.2.2.2.1 mO mR mA nA v' ∧ HR c' H' o.2.2.2.2.1 o.2.2.2.2.2) ∧
    Ev (f_X9_pay (zI a) (zI x) mM nM) (MO cd r k v' c' H' mM) := by
  obtain ⟨wr, w0, w1, R⟩ := R
  have hIB := h.1.1.2.1
  have hb := hIB.1
  obtain ⟨sv, tv, hMR, -⟩ := (hM.w8 (fun _ => zI 0)).2
  have e1 := s_hasB R.2.2.1 hIB a0 a1
  have f1 := m_isBoat (mM := wrI mM 8 (fun _ => zI 0)) hMR hIB a0 a1
  have e2 := s_within (a := x) (b := 1) (c := 1000000) x0 x1 (by omega) (by omega) (by omega) (by omega)
  have f2 := m_in (a := x) (b := 1) (c := 1000000) (by omega) (by omega) (by omega) (by omega) (by omega) (by omega)
  by_cases c1 : 0 ≤ a ∧ a < v 1881
  · rw [if_pos c1] at e1 f1
    by_cases c2 : 1 ≤ x ∧ x ≤ 1000000
    · rw [if_pos c2] at e2 f2
      have g := hIB.2 a c1.1 (by omega)
      have e3 := s_valueIn (a := a) R.2.2.1.2.2.1 (by decide) (by omega) (by show a < (8 : Int); omega)
      by_cases c3 : -1000000 ≤ v (515 + a) - x
      · have l1 : (-1000000 ≤ v (515 + a) - x) = True := eq_true c3
        simp (disch := omega) only [f_X8_pay, f_X8_payFault, f_X9_pay, f_X9_payThrows, z_c0, z_c1, z_c2, z_c3, z_c515, z_c1000000, y_c1_, y_c1000000_, z_add, z_sub, z_neg, y_neg, z_mul, z_div, z_l, y_i, y_add, y_sub, y_mul, y_div, z_lt, z_le, z_eq, y_c1, y_c2, y_c3, y_c4, y_c5, z_gi, bd1_s, bd2_s, mul30, z_ofNat, e1, f1, e2, f2, e3, l1, hMR.rd, rfq_0, eq_self, if_true, if_false, lt_eq, iz1, nz1, nz2, nz3, il0, il1, il2, il3, Int.reduceEq, Int.reduceLE, Int.reduceAdd]
        have eo : ∀ j : Int, j ≠ 515 + a → j ≠ 1884 → payV v a x j = v j := fun j p q => by unfold payV; rw [upV_ne _ _ q, upV_ne _ _ p]
        have e15 : payV v a x (515 + a) = v (515 + a) - x := by unfold payV; rw [upV_ne _ _ (by omega), upV_same]
        have hB' : IB (v 1875) (payV v a x) := hIB.one (eo _ (by omega) (by omega)) (fun b b0 b1 => by
          have gb := hIB.2 b b0 b1
          rw [eo (507 + b) (by omega) (by omega), eo (523 + b) (by omega) (by omega)]
          by_cases q : b = a
          · rw [q, e15]; rw [q] at gb; omega
          · rw [eo (515 + b) (by omega) (by omega)]; exact gb)
        have hP : PK (payV v a x) := ⟨h.1.1.boats (fun j p q r => eo j (by omega) r) hB' (by rw [eo _ (by omega) (by omega)]; exact Int.le_refl _), by rw [eo _ (by omega) (by omega)]; exact h.1.2.1, h.1.2.2.pay h.1.1.2.2.2.2.1 h.1.1.2.2.2.1.1 c1.1 (by omega) eo e15 (by unfold payV; rw [upV_same])⟩
        refine ⟨0, 0, v (515 + a) - x, payV v a x, pushN c, pushH c H v, h.push hP, Or.inl ⟨rfl, rfl⟩, ?_, ?_⟩
        · refine Ev_bd2 (s_save ⟨wr, w0, w1, R⟩ h.2.1 hH) (fun mH' hs' hH' => ?_)
          have e12 := R.1.2.2.2.2.2.2.2
          have r2 := R.2.2.1.2.2.1 a c1.1 (by omega)
          simp (disch := omega) only [z_add, z_sub, z_neg, y_neg, z_mul, z_div, z_l, y_i, y_add, y_sub, y_mul, y_div, z_lt, z_le, z_eq, y_c1, y_c2, y_c3, y_c4, y_c5, z_gi, bd1_s, bd2_s, mul30, z_ofNat, lt_eq, z_c0, f_X4_takePayment, f_X1_reduceDebt, e1, e12, r2, wrI_same, upd_rd, eq_self, if_true, if_false, lt_eq, iz1, nz1, nz2, nz3, il0, il1, il2, il3, Int.reduceEq, Int.reduceLE, Int.reduceAdd]
          refine Ev_some ⟨rfl, fun _ => rfl, ⟨wr, w0, by rw [eo _ (by omega) (by omega)]; exact w1, R.boats h.1.1 (fun j p q r => eo j (by omega) r) ?_ (wrL_ne nP (k := 12) (j := 11) (fun _ => zL (v 1884 + x)) (by decide)) ?_⟩, hH'⟩
          · obtain ⟨q1, q2, q3, q4⟩ := R.2.2.1
            unfold RB
            simp (disch := omega) only [wrI_ne, wrI_same]
            refine ⟨by rw [eo _ (by omega) (by omega)]; exact q1, q2.cg fun k _ _ => eo _ (by omega) (by omega), ?_, q4.cg fun k _ _ => eo _ (by omega) (by omega)⟩
            refine (q3.wr c1.1 (by omega) (by omega) (v (515 + a) - x)).cg fun k b1 b2 => ?_
            by_cases q : k = a
            · rw [q, upV_same]; exact e15
            · rw [upV_ne _ _ q]; exact eo _ (by omega) (by omega)
          · show wrL nP 12 (fun _ => zL (v 1884 + x)) 12 0 = zL (payV v a x 1884)
            unfold payV; rw [upV_same, wrL_same]
        · refine m_sv h hM (fun m n sv tv h8 hs h6 hMR hHM => ?_)
          simp (disch := omega) only [f_X9_doPay, z_c515, z_c1884, z_add, z_sub, z_neg, y_neg, z_mul, z_div, z_l, y_i, y_add, y_sub, y_mul, y_div, z_lt, z_le, z_eq, y_c1, y_c2, y_c3, y_c4, y_c5, z_gi, bd1_s, bd2_s, mul30, z_ofNat, hMR.rd]
          refine Ev_bd2 (R := fun r => r.1 = zI (v (515 + a) - x) ∧ MR r.2 (payV v a x) sv tv) ?_ (fun r m2 hr => Ev_some ⟨h8, fun _ => hr.1, hs, h6, sv, tv, hr.2, hHM⟩)
          refine Ev_wr hMR (by omega) (by omega) (fun n1 hM1 => ?_)
          have r84 : (upV v (515 + a) (v (515 + a) - x)) 1884 = v 1884 := upV_ne _ _ (by omega)
          simp (disch := omega) only [z_add, z_sub, z_neg, y_neg, z_mul, z_div, z_l, y_i, y_add, y_sub, y_mul, y_div, z_lt, z_le, z_eq, y_c1, y_c2, y_c3, y_c4, y_c5, z_gi, bd1_s, bd2_s, mul30, z_ofNat, hM1.rd, r84]
          refine Ev_wr hM1 (by omega) (by omega) (fun n2 hM2 => ?_)
          simp (disch := omega) only [z_add, z_sub, z_neg, y_neg, z_mul, z_div, z_l, y_i, y_add, y_sub, y_mul, y_div, z_lt, z_le, z_eq, y_c1, y_c2, y_c3, y_c4, y_c5, z_gi, bd1_s, bd2_s, mul30, z_ofNat, hM2.rd]
          exact Ev_some ⟨by show zI (payV v a x (515 + a)) = _; rw [e15], hM2⟩
      · have l1 : (-1000000 ≤ v (515 + a) - x) = False := eq_false c3
        simp (disch := omega) only [f_X8_pay, f_X8_payFault, f_X9_pay, f_X9_payThrows, z_c0, z_c1, z_c2, z_c3, z_c515, z_c1000000, y_c1_, y_c1000000_, z_add, z_sub, z_neg, y_neg, z_mul, z_div, z_l, y_i, y_add, y_sub, y_mul, y_div, z_lt, z_le, z_eq, y_c1, y_c2, y_c3, y_c4, y_c5, z_gi, bd1_s, bd2_s, mul30, z_ofNat, e1, f1, e2, f2, e3, l1, hMR.rd, rfq_3, eq_self, if_true, if_false, lt_eq, iz1, nz1, nz2, nz3, il0, il1, il2, il3, Int.reduceEq, Int.reduceLE, Int.reduceAdd]
        exact ⟨3, 3, 0, v, c, H, h, Or.inr (Or.inr (Or.inr ⟨rfl, rfl⟩)), Ev_some ⟨rfl, fun q => absurd q (by decide), ⟨wr, w0, w1, R⟩, hH⟩, m_fail (by decide) hM _⟩
    · rw [if_neg c2] at e2 f2
      simp (disch := omega) only [f_X8_pay, f_X8_payFault, f_X9_pay, f_X9_payThrows, z_c0, z_c1, z_c2, z_c3, z_c515, z_c1000000, y_c1_, y_c1000000_, z_add, z_sub, z_neg, y_neg, z_mul, z_div, z_l, y_i, y_add, y_sub, y_mul, y_div, z_lt, z_le, z_eq, y_c1, y_c2, y_c3, y_c4, y_c5, z_gi, bd1_s, bd2_s, mul30, z_ofNat, e1, f1, e2, f2, rfq_2, eq_self, if_true, if_false, lt_eq, iz1, nz1, nz2, nz3, il0, il1, il2, il3, Int.reduceEq, Int.reduceLE, Int.reduceAdd]
      exact ⟨2, 2, 0, v, c, H, h, Or.inr (Or.inr (Or.inl ⟨rfl, rfl⟩)), Ev_some ⟨rfl, fun q => absurd q (by decide), ⟨wr, w0, w1, R⟩, hH⟩, m_fail (by decide) hM _⟩
  · rw [if_neg c1] at e1 f1
    simp (disch := omega) only [f_X8_pay, f_X8_payFault, f_X9_pay, f_X9_payThrows, z_c0, z_c1, z_c2, z_c3, z_c515, z_c1000000, y_c1_, y_c1000000_, z_add, z_sub, z_neg, y_neg, z_mul, z_div, z_l, y_i, y_add, y_sub, y_mul, y_div, z_lt, z_le, z_eq, y_c1, y_c2, y_c3, y_c4, y_c5, z_gi, bd1_s, bd2_s, mul30, z_ofNat, e1, f1, rfq_1, eq_self, if_true, if_false, lt_eq, iz1, nz1, nz2, nz3, il0, il1, il2, il3, Int.reduceEq, Int.reduceLE, Int.reduceAdd]
    exact ⟨1, 1, 0, v, c, H, h, Or.inr (Or.inl ⟨rfl, rfl⟩), Ev_some ⟨rfl, fun q => absurd q (by decide), ⟨wr, w0, w1, R⟩, hH⟩, m_fail (by decide) hM _⟩
end
