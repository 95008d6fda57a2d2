/-! the calls that act: addSilo, move, cancel -/
theorem silV_out {v : VI} {c r t j : Int} (h : 0 ≤ v 1880 ∧ v 1880 < 5) (a : ¬ (32 ≤ j ∧ j < 47)) (b : j ≠ 1880) : silV v c r t j = v j := by
  unfold silV; rw [upV_ne _ _ b, upV_ne _ _ (by omega), upV_ne _ _ (by omega), upV_ne _ _ (by omega)]
/-- a plant at rest, changed in its silos alone -/
theorem Pl.silos {v v' : VI} (h : Pl v) (e : ∀ j : Int, ¬ (32 ≤ j ∧ j < 52) → ¬ (57 ≤ j ∧ j < 507) → j ≠ 1880 → v' j = v j) (hS : IS (v 1875) v') : Pl v' := by
  obtain ⟨h1, h2, h3, h4, h5, h6, h7, h8, h9, h10, h11⟩ := h
  unfold Pl
  rw [e 1875 (by omega) (by omega) (by omega), e 1885 (by omega) (by omega) (by omega), e 1878 (by omega) (by omega) (by omega), e 52 (by omega) (by omega) (by omega), e 53 (by omega) (by omega) (by omega), e 54 (by omega) (by omega) (by omega), e 55 (by omega) (by omega) (by omega), e 56 (by omega) (by omega) (by omega), e 1876 (by omega) (by omega) (by omega), e 1877 (by omega) (by omega) (by omega), e 1879 (by omega) (by omega) (by omega)]
  exact ⟨h1.cg fun j a b => e j (by omega) (by omega) (by omega), h2.cg (e _ (by omega) (by omega) (by omega)) (fun j a b => e j (by omega) (by omega) (by omega)), h3.cg (e _ (by omega) (by omega) (by omega)) (e _ (by omega) (by omega) (by omega)) (fun j a b => e j (by omega) (by omega) (by omega)), h4.cg (e _ (by omega) (by omega) (by omega)) (fun j a b => e j (by omega) (by omega) (by omega)), hS, h6, h7, h8, h9, h10, h11⟩
theorem RPl.silos {wr : Int} {mP : Mem} {nP : MemL} {mS mB mO mR mA mS' : Mem} {nA : MemL} {v v' : VI} (R : RPl wr mP nP mS mB mO mR mA nA v) (h : Pl v) (e : ∀ j : Int, ¬ (32 ≤ j ∧ j < 52) → ¬ (57 ≤ j ∧ j < 507) → j ≠ 1880 → v' j = v j) (hS : RS mS' v') : RPl wr mP nP mS' mB mO mR mA nA v' := by
  obtain ⟨R1, R2, R3, R4, R5, R6⟩ := R
  exact ⟨R1.cg (fun k a b => e _ (by omega) (by omega) (by omega)) (fun k a b _ _ _ _ => e _ (by omega) (by omega) (by omega)), hS, R3.cg (e _ (by omega) (by omega) (by omega)) (fun k a b => e _ (by omega) (by omega) (by omega)), R4.cg h.2.2.1.1 (e _ (by omega) (by omega) (by omega)) (fun k a b => e _ (by omega) (by omega) (by omega)), R5.cg (e _ (by omega) (by omega) (by omega)) (fun k a b => e _ (by omega) (by omega) (by omega)), R6.cg (e _ (by omega) (by omega) (by omega)) (fun k a b => e _ (by omega) (by omega) (by omega))⟩
theorem silV_IS {T : Int} {v : VI} (hI : IS T v) (hlt : v 1880 < 5) {c r t : Int} (hc : 1 ≤ c ∧ c ≤ 30) (hr : 0 ≤ r ∧ r ≤ 3) (ht : 0 ≤ t ∧ t ≤ 100) : IS T (silV v c r t) := by
  obtain ⟨h1, h2, h3, h4⟩ := hI
  have o : ∀ {j : Int}, ¬ (32 ≤ j ∧ j < 47) → j ≠ 1880 → silV v c r t j = v j := fun a b => silV_out ⟨h1.1, hlt⟩ a b
  have e80 : silV v c r t 1880 = v 1880 + 1 := by unfold silV; rw [upV_same]
  refine ⟨by omega, by rw [o (by omega) (by omega), o (by omega) (by omega)]; exact h2, fun s s0 s1 => ?_, fun s k s0 s1 k0 k1 => ?_⟩
  · have g := h3 s s0 s1
    rw [o (j := 47 + s) (by omega) (by omega), o (j := 52 + s) (by omega) (by omega), e80]
    by_cases q : s = v 1880
    · have e32 : silV v c r t (32 + s) = c := by unfold silV; rw [q, upV_ne _ _ (by omega), upV_ne _ _ (by omega), upV_ne _ _ (by omega), upV_same]
      have e37 : silV v c r t (37 + s) = r := by unfold silV; rw [q, upV_ne _ _ (by omega), upV_ne _ _ (by omega), upV_same]
      have e42 : silV v c r t (42 + s) = t := by unfold silV; rw [q, upV_ne _ _ (by omega), upV_same]
      rw [e32, e37, e42]; omega
    · have e32 : silV v c r t (32 + s) = v (32 + s) := by unfold silV; rw [upV_ne _ _ (by omega), upV_ne _ _ (by omega), upV_ne _ _ (by omega), upV_ne _ _ (by omega)]
      have e37 : silV v c r t (37 + s) = v (37 + s) := by unfold silV; rw [upV_ne _ _ (by omega), upV_ne _ _ (by omega), upV_ne _ _ (by omega), upV_ne _ _ (by omega)]
      have e42 : silV v c r t (42 + s) = v (42 + s) := by unfold silV; rw [upV_ne _ _ (by omega), upV_ne _ _ (by omega), upV_ne _ _ (by omega), upV_ne _ _ (by omega)]
      rw [e32, e37, e42]; omega
  · have g := h3 s s0 s1
    rw [o (j := 47 + s) (by omega) (by omega)] at k1
    rw [o (by omega) (by omega), o (by omega) (by omega), o (by omega) (by omega), o (by omega) (by omega), o (by omega) (by omega)]
    exact h4 s k s0 s1 k0 k1
theorem movV_IS {T : Int} {v : VI} (hI : IS T v) {s t : Int} (h1 : 0 ≤ s) (h2 : s < v 1880) (h3 : 0 ≤ t) (h4 : t < v 1880) (hst : s ≠ t) (hs : 0 < v (47 + s)) (ht : v (47 + t) < v (32 + t)) : IS T (movV v s t) ∧ ∀ j : Int, ¬ (32 ≤ j ∧ j < 52) → ¬ (57 ≤ j ∧ j < 507) → j ≠ 1880 → movV v s t j = v j := by
  have hb := hI.1
  have hzs := hI.sz (s := s) h1 (by omega)
  have hzt := hI.sz (s := t) h3 (by omega)
  have o : ∀ j : Int, j ≠ 57 + (30 * t + v (47 + t)) → j ≠ 207 + (30 * t + v (47 + t)) → j ≠ 357 + (30 * t + v (47 + t)) → j ≠ 47 + s → j ≠ 47 + t → movV v s t j = v j := fun j a b c d e => by
    unfold movV filV
    rw [upV_ne _ _ d, upV_ne _ _ e, upV_ne _ _ c, upV_ne _ _ b, upV_ne _ _ a]
  have es : movV v s t (47 + s) = v (47 + s) - 1 := by unfold movV; rw [upV_same]
  have et : movV v s t (47 + t) = v (47 + t) + 1 := by unfold movV; rw [upV_ne _ _ (by omega), upV_same]
  have e57 : movV v s t (57 + (30 * t + v (47 + t))) = v (57 + (30 * s + (v (47 + s) - 1))) := by
    unfold movV filV; rw [upV_ne _ _ (by omega), upV_ne _ _ (by omega), upV_ne _ _ (by omega), upV_ne _ _ (by omega), upV_same]
  have e207 : movV v s t (207 + (30 * t + v (47 + t))) = v (207 + (30 * s + (v (47 + s) - 1))) := by
    unfold movV filV; rw [upV_ne _ _ (by omega), upV_ne _ _ (by omega), upV_ne _ _ (by omega), upV_same]
  have e357 : movV v s t (357 + (30 * t + v (47 + t))) = v (357 + (30 * s + (v (47 + s) - 1))) := by
    unfold movV filV; rw [upV_ne _ _ (by omega), upV_ne _ _ (by omega), upV_same]
  refine ⟨⟨by rw [o 1880 (by omega) (by omega) (by omega) (by omega) (by omega)]; exact hb, by rw [o 1887 (by omega) (by omega) (by omega) (by omega) (by omega), o 1875 (by omega) (by omega) (by omega) (by omega) (by omega)]; exact hI.2.1, fun q q0 q1 => ?_, fun q k q0 q1 k0 k1 => ?_⟩, fun j a b c => o j (by omega) (by omega) (by omega) (by omega) (by omega)⟩
  · have g := hI.2.2.1 q q0 q1
    rw [o (32 + q) (by omega) (by omega) (by omega) (by omega) (by omega), o (37 + q) (by omega) (by omega) (by omega) (by omega) (by omega), o (42 + q) (by omega) (by omega) (by omega) (by omega) (by omega), o (52 + q) (by omega) (by omega) (by omega) (by omega) (by omega), o 1880 (by omega) (by omega) (by omega) (by omega) (by omega)]
    by_cases c1 : q = s
    · rw [c1, es]; rw [c1] at g; omega
    · by_cases c2 : q = t
      · rw [c2, et]; rw [c2] at g; omega
      · rw [o (47 + q) (by omega) (by omega) (by omega) (by omega) (by omega)]; exact g
  · rw [o 1887 (by omega) (by omega) (by omega) (by omega) (by omega), o 1875 (by omega) (by omega) (by omega) (by omega) (by omega)]
    have hzq := hI.sz q0 q1
    by_cases c2 : q = t
    · rw [c2, et] at k1
      by_cases c3 : k = v (47 + t)
      · rw [c2, c3, e57, e207, e357]
        exact hI.blk h1 (by omega) (by omega) (by omega)
      · rw [c2, o _ (by omega) (by omega) (by omega) (by omega) (by omega), o _ (by omega) (by omega) (by omega) (by omega) (by omega), o _ (by omega) (by omega) (by omega) (by omega) (by omega)]
        exact hI.blk h3 (by omega) k0 (by omega)
    · have k2 : k < v (47 + q) := by
        by_cases c1 : q = s
        · rw [c1, es] at k1; rw [c1]; omega
        · rw [o (47 + q) (by omega) (by omega) (by omega) (by omega) (by omega)] at k1; exact k1
      rw [o _ (by omega) (by omega) (by omega) (by omega) (by omega), o _ (by omega) (by omega) (by omega) (by omega) (by omega), o _ (by omega) (by omega) (by omega) (by omega) (by omega)]
      exact hI.blk q0 q1 k0 k2
theorem closeV_IO {v : VI} (hI : IOr v) {o st : Int} (o0 : 0 ≤ o) (o1 : o < v 1882) (hst : 1 ≤ st ∧ st ≤ 3) : IOr (upV v (1531 + o) st) := by
  have hb := hI.1
  have out : ∀ {j : Int}, j ≠ 1531 + o → upV v (1531 + o) st j = v j := fun h => upV_ne _ _ h
  refine ⟨by rw [out (by omega)]; exact hb, ?_, fun q q0 q1 => ?_⟩
  · have h20 := hI.2.1
    unfold openC at h20 ⊢
    rw [out (by omega)]
    have := cntZ_sub (f := stF v) (g := stF (upV v (1531 + o) st)) (v 1882).toNat (fun j hj hz => by
      have hz' : upV v (1531 + o) st (1531 + j) = 0 := hz
      by_cases q : (j : Int) = o
      · rw [q, upV_same] at hz'; omega
      · rw [out (by omega)] at hz'; exact hz')
    omega
  · have g := hI.2.2 q q0 q1
    rw [out (j := 931 + q) (by omega), out (j := 1131 + q) (by omega), out (j := 1331 + q) (by omega), out (j := 531 + q) (by omega), out (j := 731 + q) (by omega), out (j := 1881) (by omega), out (j := 1882) (by omega)]
    by_cases c : q = o
    · rw [c, upV_same]; rw [c] at g; omega
    · rw [out (by omega)]; exact g
section
variable {v : VI} {c : Int} {H : Int → VI} {imT imdP : Mem} {indP : MemL} {imdS imdB imdO imdR imdA : Mem} {indA : MemL} {mP : Mem} {nP : MemL} {mS mB mO mR mA : Mem} {nA : MemL} {mH : Mem} {hs : Nat → PSt} {mM : Mem} {nM : MemL}
theorem p_addSilo (h : WF v c H) (R : RW mP nP mS mB mO mR mA nA v) (hH : HR c H mH hs) (hM : MS v c H mM nM) {a x y : Int} (a0 : -2147483648 ≤ a) (a1 : a < 2147483648) (x0 : -2147483648 ≤ x) (x1 : x < 2147483648) (y0 : -2147483648 ≤ y) (y1 : y < 2147483648) :
    ∃ (k : Nat) (cd r : Int) (v' : VI) (c' : Int) (H' : Int → VI), WF v' c' H' ∧ KAS k cd ∧
    Ev (f_X8_addSilo (zI a) (zI x) (zI y) imT imdP indP imdS imdB imdO imdR imdA indA mP nP mS mB mO mR mA nA mH hs) (fun o => o.1 = k ∧ (k = 0 → o.2.1 = zI r) ∧ RW mP nP o.2.2.1 mB mO mR mA nA v' ∧ HR c' H' o.2.2.2.1 o.2.2.2.2) ∧
    Ev (f_X9_addSilo (zI a) (zI x) (zI y) mM nM) (MO cd r k v' c' H' mM) := by
  obtain ⟨wr, w0, w1, R⟩ := R
  have hI := h.1.1.2.2.2.2.1
  have hb := hI.1
  obtain ⟨sv, tv, hMR, -⟩ := (hM.w8 (fun _ => zI 0)).2
  have e1 := s_within (a := a) (b := 1) (c := 30) a0 a1 (by omega) (by omega) (by omega) (by omega)
  have f1 := m_in (a := a) (b := 1) (c := 30) (by omega) (by omega) (by omega) (by omega) (by omega) (by omega)
  have e2 := s_within (a := x) (b := 0) (c := 3) x0 x1 (by omega) (by omega) (by omega) (by omega)
  have f2 := m_in (a := x) (b := 0) (c := 3) (by omega) (by omega) (by omega) (by omega) (by omega) (by omega)
  have e3 := s_within (a := y) (b := 0) (c := 100) y0 y1 (by omega) (by omega) (by omega) (by omega)
  have f3 := m_in (a := y) (b := 0) (c := 100) (by omega) (by omega) (by omega) (by omega) (by omega) (by omega)
  have t0 := R.2.1.1
  by_cases c1 : 1 ≤ a ∧ a ≤ 30
  · rw [if_pos c1] at e1 f1
    by_cases c2 : 0 ≤ x ∧ x ≤ 3
    · rw [if_pos c2] at e2 f2
      by_cases c3 : 0 ≤ y ∧ y ≤ 100
      · rw [if_pos c3] at e3 f3
        by_cases c4 : v 1880 = 5
        · have l1 : (5 ≤ v 1880) = True := eq_true (by omega)
          have l2 : (v 1880 = 5) = True := eq_true c4
          simp (disch := omega) only [f_X8_addSilo, f_X8_addSilo_b48, f_X9_addSilo, f_X9_addSilo_b41, z_c0, z_c1, z_c2, z_c3, z_c5, z_c30, z_c32, z_c37, z_c42, z_c100, z_c1880, y_c0_, y_c1_, y_c3_, y_c5_, y_c30_, y_c100_, z_add, z_sub, z_neg, y_neg, z_mul, z_div, z_l, y_i, y_add, y_sub, y_mul, y_div, z_lt, z_le, z_eq, y_c1, y_c2, y_c3, y_c4, y_c5, z_gi, bd1_s, bd2_s, mul30, z_ofNat, e1, f1, e2, f2, e3, f3, t0, l1, l2, hMR.rd, nAq_1, nSq_0, eq_self, if_true, if_false, lt_eq, iz1, nz1, nz2, nz3, il0, il1, il2, il3, Int.reduceEq, Int.reduceLE, Int.reduceAdd]
          exact ⟨3, 2, 0, v, c, H, h, Or.inr (Or.inr ⟨rfl, rfl⟩), Ev_some ⟨rfl, fun q => absurd q (by decide), ⟨wr, w0, w1, R⟩, hH⟩, m_fail (by decide) hM _⟩
        · have l1 : (5 ≤ v 1880) = False := eq_false (by omega)
          have l2 : (v 1880 = 5) = False := eq_false c4
          simp (disch := omega) only [f_X8_addSilo, f_X8_addSilo_b48, f_X9_addSilo, f_X9_addSilo_b41, z_c0, z_c1, z_c2, z_c3, z_c5, z_c30, z_c32, z_c37, z_c42, z_c100, z_c1880, y_c0_, y_c1_, y_c3_, y_c5_, y_c30_, y_c100_, z_add, z_sub, z_neg, y_neg, z_mul, z_div, z_l, y_i, y_add, y_sub, y_mul, y_div, z_lt, z_le, z_eq, y_c1, y_c2, y_c3, y_c4, y_c5, z_gi, bd1_s, bd2_s, mul30, z_ofNat, e1, f1, e2, f2, e3, f3, t0, l1, l2, hMR.rd, nAq_1, nSq_1, eq_self, if_true, if_false, lt_eq, iz1, nz1, nz2, nz3, il0, il1, il2, il3, Int.reduceEq, Int.reduceLE, Int.reduceAdd]
          have eo : ∀ j : Int, ¬ (32 ≤ j ∧ j < 52) → ¬ (57 ≤ j ∧ j < 507) → j ≠ 1880 → silV v a x y j = v j := fun j p _ r => silV_out ⟨hb.1, by omega⟩ (by omega) r
          have hP : PK (silV v a x y) := ⟨h.1.1.silos eo (silV_IS hI (by omega) c1 c2 c3), by rw [eo _ (by omega) (by omega) (by omega)]; exact h.1.2.1, h.1.2.2.sto h.1.1.2.2.2.1.1 (storedF_sil hI (by omega) a x y) (fun j p q => eo j (by omega) (by omega) q)⟩
          refine ⟨0, 0, v 1880, silV v a x y, pushN c, pushH c H v, h.push hP, Or.inl ⟨rfl, rfl⟩, ?_, ?_⟩
          · refine Ev_bd2 (s_save ⟨wr, w0, w1, R⟩ h.2.1 hH) (fun mH' hs' hH' => ?_)
            exact Ev_bd2 (s_addSilo R.2.1 hI (by omega) a x y) (fun r m hr => Ev_some ⟨rfl, fun _ => hr.1, ⟨wr, w0, by rw [eo _ (by omega) (by omega) (by omega)]; exact w1, R.silos h.1.1 eo hr.2⟩, hH'⟩)
          · refine m_sv h hM (fun m n sv tv h8 hs h6 hMR hHM => ?_)
            simp (disch := omega) only [z_add, z_sub, z_neg, y_neg, z_mul, z_div, z_l, y_i, y_add, y_sub, y_mul, y_div, z_lt, z_le, z_eq, y_c1, y_c2, y_c3, y_c4, y_c5, z_gi, bd1_s, bd2_s, mul30, z_ofNat, hMR.rd]
            have hM1 := hMR.wr (a := 32 + v 1880) (by omega) (by omega) a
            have hM2 := hM1.wr (a := 37 + v 1880) (by omega) (by omega) x
            have hM3 := hM2.wr (a := 42 + v 1880) (by omega) (by omega) y
            have r80 : (upV (upV (upV v (32 + v 1880) a) (37 + v 1880) x) (42 + v 1880) y) 1880 = v 1880 := by rw [upV_ne _ _ (by omega), upV_ne _ _ (by omega), upV_ne _ _ (by omega)]
            simp (disch := omega) only [z_add, z_sub, z_neg, y_neg, z_mul, z_div, z_l, y_i, y_add, y_sub, y_mul, y_div, z_lt, z_le, z_eq, y_c1, y_c2, y_c3, y_c4, y_c5, z_gi, bd1_s, bd2_s, mul30, z_ofNat, hM3.rd, r80]
            have hM4 := hM3.wr (a := 1880) (by omega) (by omega) (v 1880 + 1)
            exact Ev_some ⟨h8, fun _ => rfl, hs, h6, sv, tv, hM4, hHM⟩
      · rw [if_neg c3] at e3 f3
        simp (disch := omega) only [f_X8_addSilo, f_X8_addSilo_b48, f_X9_addSilo, f_X9_addSilo_b41, z_c0, z_c1, z_c2, z_c3, z_c5, z_c30, z_c32, z_c37, z_c42, z_c100, z_c1880, y_c0_, y_c1_, y_c3_, y_c5_, y_c30_, y_c100_, z_add, z_sub, z_neg, y_neg, z_mul, z_div, z_l, y_i, y_add, y_sub, y_mul, y_div, z_lt, z_le, z_eq, y_c1, y_c2, y_c3, y_c4, y_c5, z_gi, bd1_s, bd2_s, mul30, z_ofNat, e1, f1, e2, f2, e3, f3, nAq_1, nAq_0, eq_self, if_true, if_false, lt_eq, iz1, nz1, nz2, nz3, il0, il1, il2, il3, Int.reduceEq, Int.reduceLE, Int.reduceAdd]
        exact ⟨2, 1, 0, v, c, H, h, Or.inr (Or.inl ⟨rfl, rfl⟩), Ev_some ⟨rfl, fun q => absurd q (by decide), ⟨wr, w0, w1, R⟩, hH⟩, m_fail (by decide) hM _⟩
    · rw [if_neg c2] at e2 f2
      simp (disch := omega) only [f_X8_addSilo, f_X8_addSilo_b48, f_X9_addSilo, f_X9_addSilo_b41, z_c0, z_c1, z_c2, z_c3, z_c5, z_c30, z_c32, z_c37, z_c42, z_c100, z_c1880, y_c0_, y_c1_, y_c3_, y_c5_, y_c30_, y_c100_, z_add, z_sub, z_neg, y_neg, z_mul, z_div, z_l, y_i, y_add, y_sub, y_mul, y_div, z_lt, z_le, z_eq, y_c1, y_c2, y_c3, y_c4, y_c5, z_gi, bd1_s, bd2_s, mul30, z_ofNat, e1, f1, e2, f2, nAq_1, nAq_0, eq_self, if_true, if_false, lt_eq, iz1, nz1, nz2, nz3, il0, il1, il2, il3, Int.reduceEq, Int.reduceLE, Int.reduceAdd]
      exact ⟨2, 1, 0, v, c, H, h, Or.inr (Or.inl ⟨rfl, rfl⟩), Ev_some ⟨rfl, fun q => absurd q (by decide), ⟨wr, w0, w1, R⟩, hH⟩, m_fail (by decide) hM _⟩
  · rw [if_neg c1] at e1 f1
    simp (disch := omega) only [f_X8_addSilo, f_X8_addSilo_b48, f_X9_addSilo, f_X9_addSilo_b41, z_c0, z_c1, z_c2, z_c3, z_c5, z_c30, z_c32, z_c37, z_c42, z_c100, z_c1880, y_c0_, y_c1_, y_c3_, y_c5_, y_c30_, y_c100_, z_add, z_sub, z_neg, y_neg, z_mul, z_div, z_l, y_i, y_add, y_sub, y_mul, y_div, z_lt, z_le, z_eq, y_c1, y_c2, y_c3, y_c4, y_c5, z_gi, bd1_s, bd2_s, mul30, z_ofNat, e1, f1, nAq_0, eq_self, if_true, if_false, lt_eq, iz1, nz1, nz2, nz3, il0, il1, il2, il3, Int.reduceEq, Int.reduceLE, Int.reduceAdd]
    exact ⟨2, 1, 0, v, c, H, h, Or.inr (Or.inl ⟨rfl, rfl⟩), Ev_some ⟨rfl, fun q => absurd q (by decide), ⟨wr, w0, w1, R⟩, hH⟩, m_fail (by decide) hM _⟩
theorem p_move (h : WF v c H) (R : RW mP nP mS mB mO mR mA nA v) (hH : HR c H mH hs) (hM : MS v c H mM nM) {a x : Int} (a0 : -2147483648 ≤ a) (a1 : a < 2147483648) (x0 : -2147483648 ≤ x) (x1 : x < 2147483648) :
    ∃ (k : Nat) (cd r : Int) (v' : VI) (c' : Int) (H' : Int → VI), WF v' c' H' ∧ KIAS k cd ∧
    Ev (f_X8_move (zI a) (zI x) imT imdP indP imdS imdB imdO imdR imdA indA mP nP mS mB mO mR mA nA mH hs) (fun o => o.1 = k ∧ (k = 0 → o.2.1 = zI r) ∧ RW mP nP o.2.2.1 mB mO mR mA nA v' ∧ HR c' H' o.2.2.2.1 o.2.2.2.2) ∧
    Ev (f_X9_move (zI a) (zI x) mM nM) (MO cd r k v' c' H' mM) := by
  obtain ⟨wr, w0, w1, R⟩ := R
  have hI := h.1.1.2.2.2.2.1
  have hb := hI.1
  obtain ⟨sv, tv, hMR, -⟩ := (hM.w8 (fun _ => zI 0)).2
  have e1 := s_hasSilo R.2.1 hI a0 a1
  have f1 := m_isSilo (mM := wrI mM 8 (fun _ => zI 0)) hMR hI a0 a1
  have e2 := s_hasSilo R.2.1 hI x0 x1
  have f2 := m_isSilo (mM := wrI mM 8 (fun _ => zI 0)) hMR hI x0 x1
  by_cases c1 : 0 ≤ a ∧ a < v 1880
  · rw [if_pos c1] at e1 f1
    by_cases c2 : 0 ≤ x ∧ x < v 1880
    · rw [if_pos c2] at e2 f2
      by_cases c3 : a = x
      · have l3 : (a = x) = True := eq_true c3
        simp (disch := omega) only [f_X8_move, f_X8_moveFault, f_X8_moveFault_b65, f_X9_move, f_X9_moveThrows, f_X9_moveThrows_b61, z_c0, z_c1, z_c2, z_c3, z_c32, z_c47, y_c0_, z_add, z_sub, z_neg, y_neg, z_mul, z_div, z_l, y_i, y_add, y_sub, y_mul, y_div, z_lt, z_le, z_eq, y_c1, y_c2, y_c3, y_c4, y_c5, z_gi, bd1_s, bd2_s, mul30, z_ofNat, e1, f1, e2, f2, l3, rfq_2, eq_self, if_true, if_false, lt_eq, iz1, nz1, nz2, nz3, il0, il1, il2, il3, Int.reduceEq, Int.reduceLE, Int.reduceAdd]
        exact ⟨2, 2, 0, v, c, H, h, Or.inr (Or.inr (Or.inl ⟨rfl, rfl⟩)), Ev_some ⟨rfl, fun q => absurd q (by decide), ⟨wr, w0, w1, R⟩, hH⟩, m_fail (by decide) hM _⟩
      · have l3 : (a = x) = False := eq_false c3
        have g1 := hI.sz c1.1 (by omega)
        have g2 := hI.sz c2.1 (by omega)
        have e4 := s_isEmpty R.2.1 hI c1.1 (by omega)
        have e5 := s_hasRoom R.2.1 hI c2.1 (by omega)
        by_cases c4 : v (47 + a) = 0
        · rw [if_pos c4] at e4
          have l4 : (v (47 + a) = 0) = True := eq_true c4
          simp (disch := omega) only [f_X8_move, f_X8_moveFault, f_X8_moveFault_b65, f_X9_move, f_X9_moveThrows, f_X9_moveThrows_b61, z_c0, z_c1, z_c2, z_c3, z_c32, z_c47, y_c0_, z_add, z_sub, z_neg, y_neg, z_mul, z_div, z_l, y_i, y_add, y_sub, y_mul, y_div, z_lt, z_le, z_eq, y_c1, y_c2, y_c3, y_c4, y_c5, z_gi, bd1_s, bd2_s, mul30, z_ofNat, e1, f1, e2, f2, l3, e4, l4, hMR.rd, rfq_3, eq_self, if_true, if_false, lt_eq, iz1, nz1, nz2, nz3, il0, il1, il2, il3, Int.reduceEq, Int.reduceLE, Int.reduceAdd]
          exact ⟨3, 3, 0, v, c, H, h, Or.inr (Or.inr (Or.inr ⟨rfl, rfl⟩)), Ev_some ⟨rfl, fun q => absurd q (by decide), ⟨wr, w0, w1, R⟩, hH⟩, m_fail (by decide) hM _⟩
        · rw [if_neg c4] at e4
          have l4 : (v (47 + a) = 0) = False := eq_false c4
          by_cases c5 : v (47 + x) < v (32 + x)
          · rw [if_pos c5] at e5
            have l5 : (v (47 + x) = v (32 + x)) = False := eq_false (by omega)
            simp (disch := omega) only [f_X8_move, f_X8_moveFault, f_X8_moveFault_b65, f_X9_move, f_X9_moveThrows, f_X9_moveThrows_b61, z_c0, z_c1, z_c2, z_c3, z_c32, z_c47, y_c0_, z_add, z_sub, z_neg, y_neg, z_mul, z_div, z_l, y_i, y_add, y_sub, y_mul, y_div, z_lt, z_le, z_eq, y_c1, y_c2, y_c3, y_c4, y_c5, z_gi, bd1_s, bd2_s, mul30, z_ofNat, e1, f1, e2, f2, l3, e4, l4, e5, l5, hMR.rd, rfq_0, eq_self, if_true, if_false, lt_eq, iz1, nz1, nz2, nz3, il0, il1, il2, il3, Int.reduceEq, Int.reduceLE, Int.reduceAdd]
            obtain ⟨hS, eo⟩ := movV_IS hI c1.1 c1.2 c2.1 c2.2 c3 (by omega) c5
            have hP : PK (movV v a x) := ⟨h.1.1.silos eo hS, by rw [eo _ (by omega) (by omega) (by omega)]; exact h.1.2.1, h.1.2.2.sto h.1.1.2.2.2.1.1 (storedF_mov hI c1.1 c1.2 c2.1 c2.2 c3 (by omega) c5) (fun j p q => eo j (by omega) (by omega) q)⟩
            refine ⟨0, 0, v (57 + (30 * a + (v (47 + a) - 1))), movV v a x, pushN c, pushH c H v, h.push hP, Or.inl ⟨rfl, rfl⟩, ?_, ?_⟩
            · refine Ev_bd2 (s_save ⟨wr, w0, w1, R⟩ h.2.1 hH) (fun mH' hs' hH' => ?_)
              exact Ev_bd2 (s_moveTop R.2.1 hI c1.1 c1.2 c2.1 c2.2 c3 (by omega) c5) (fun r m hr => Ev_some ⟨rfl, fun _ => hr.1, ⟨wr, w0, by rw [eo _ (by omega) (by omega) (by omega)]; exact w1, R.silos h.1.1 eo hr.2⟩, hH'⟩)
            · refine m_sv h hM (fun m n sv tv h8 hs h6 hMR hHM => ?_)
              exact Ev_bd2 (m_doMove hMR hI c1.1 c1.2 c2.1 c2.2 c3 (by omega) c5) (fun r m2 hr => Ev_some ⟨h8, fun _ => hr.1, hs, h6, sv, tv, hr.2, hHM⟩)
          · rw [if_neg c5] at e5
            have l5 : (v (47 + x) = v (32 + x)) = True := eq_true (by omega)
            simp (disch := omega) only [f_X8_move, f_X8_moveFault, f_X8_moveFault_b65, f_X9_move, f_X9_moveThrows, f_X9_moveThrows_b61, z_c0, z_c1, z_c2, z_c3, z_c32, z_c47, y_c0_, z_add, z_sub, z_neg, y_neg, z_mul, z_div, z_l, y_i, y_add, y_sub, y_mul, y_div, z_lt, z_le, z_eq, y_c1, y_c2, y_c3, y_c4, y_c5, z_gi, bd1_s, bd2_s, mul30, z_ofNat, e1, f1, e2, f2, l3, e4, l4, e5, l5, hMR.rd, rfq_3, eq_self, if_true, if_false, lt_eq, iz1, nz1, nz2, nz3, il0, il1, il2, il3, Int.reduceEq, Int.reduceLE, Int.reduceAdd]
            exact ⟨3, 3, 0, v, c, H, h, Or.inr (Or.inr (Or.inr ⟨rfl, rfl⟩)), Ev_some ⟨rfl, fun q => absurd q (by decide), ⟨wr, w0, w1, R⟩, hH⟩, m_fail (by decide) hM _⟩
    · rw [if_neg c2] at e2 f2
      simp (disch := omega) only [f_X8_move, f_X8_moveFault, f_X8_moveFault_b65, f_X9_move, f_X9_moveThrows, f_X9_moveThrows_b61, z_c0, z_c1, z_c2, z_c3, z_c32, z_c47, y_c0_, z_add, z_sub, z_neg, y_neg, z_mul, z_div, z_l, y_i, y_add, y_sub, y_mul, y_div, z_lt, z_le, z_eq, y_c1, y_c2, y_c3, y_c4, y_c5, z_gi, bd1_s, bd2_s, mul30, z_ofNat, e1, f1, e2, f2, rfq_1, eq_self, if_true, if_false, lt_eq, iz1, nz1, nz2, nz3, il0, il1, il2, il3, Int.reduceEq, Int.reduceLE, Int.reduceAdd]
      exact ⟨1, 1, 0, v, c, H, h, Or.inr (Or.inl ⟨rfl, rfl⟩), Ev_some ⟨rfl, fun q => absurd q (by decide), ⟨wr, w0, w1, R⟩, hH⟩, m_fail (by decide) hM _⟩
  · rw [if_neg c1] at e1 f1
    simp (disch := omega) only [f_X8_move, f_X8_moveFault, f_X8_moveFault_b65, f_X9_move, f_X9_moveThrows, f_X9_moveThrows_b61, z_c0, z_c1, z_c2, z_c3, z_c32, z_c47, y_c0_, z_add, z_sub, z_neg, y_neg, z_mul, z_div, z_l, y_i, y_add, y_sub, y_mul, y_div, z_lt, z_le, z_eq, y_c1, y_c2, y_c3, y_c4, y_c5, z_gi, bd1_s, bd2_s, mul30, z_ofNat, e1, f1, rfq_1, eq_self, if_true, if_false, lt_eq, iz1, nz1, nz2, nz3, il0, il1, il2, il3, Int.reduceEq, Int.reduceLE, Int.reduceAdd]
    exact ⟨1, 1, 0, v, c, H, h, Or.inr (Or.inl ⟨rfl, rfl⟩), Ev_some ⟨rfl, fun q => absurd q (by decide), ⟨wr, w0, w1, R⟩, hH⟩, m_fail (by decide) hM _⟩
theorem p_cancel (h : WF v c H) (R : RW mP nP mS mB mO mR mA nA v) (hH : HR c H mH hs) (hM : MS v c H mM nM) {a : Int} (a0 : -2147483648 ≤ a) (a1 : a < 2147483648) :
    ∃ (k : Nat) (cd r : Int) (v' : VI) (c' : Int) (H' : Int → VI), WF v' c' H' ∧ KIS k cd ∧
    Ev (f_X8_cancel (zI a) imT imdP indP imdS imdB imdO imdR imdA indA mP nP mS mB mO mR mA nA mH hs) (fun o => o.1 = k ∧ (k = 0 → o.2.1 = zI r) ∧ RW mP nP mS mB o.2.2.1 mR mA nA v' ∧ HR c' H' o.2.2.2.1 o.2.2.2.2) ∧
    Ev (f_X9_cancel (zI a) mM nM) (MO cd r k v' c' H' mM) := by
  obtain ⟨wr, w0, w1, R⟩ := R
  have hI := h.1.1.2.2.2.2.1
  have hIO := h.1.1.2.2.1
  have hb := hIO.1
  obtain ⟨sv, tv, hMR, -⟩ := (hM.w8 (fun _ => zI 0)).2
  have e1 := s_hasO R.2.2.2.1 hb a0 a1
  have f1 := m_isOrder (mM := wrI mM 8 (fun _ => zI 0)) hMR hIO a0 a1
  have e2 := s_isOpen R.2.2.2.1 hIO a0 a1
  by_cases c1 : 0 ≤ a ∧ a < v 1882
  · rw [if_pos c1] at e1 f1
    have hst := (hIO.2.2 a c1.1 (by omega)).2.2.2.1
    by_cases c2 : v (1531 + a) = 0
    · rw [if_pos ⟨c1, c2⟩] at e2
      have l2 : (v (1531 + a) = 0) = True := eq_true c2
      simp (disch := omega) only [f_X8_cancel, f_X9_cancel, z_c0, z_c1, z_c2, z_c3, z_c1531, y_c0_, y_c3_, z_add, z_sub, z_neg, y_neg, z_mul, z_div, z_l, y_i, y_add, y_sub, y_mul, y_div, z_lt, z_le, z_eq, y_c1, y_c2, y_c3, y_c4, y_c5, z_gi, bd1_s, bd2_s, mul30, z_ofNat, e1, f1, e2, l2, hMR.rd, nIq_1, nSq_1, eq_self, if_true, if_false, lt_eq, iz1, nz1, nz2, nz3, il0, il1, il2, il3, Int.reduceEq, Int.reduceLE, Int.reduceAdd]
      have o : ∀ j : Int, j ≠ 1531 + a → upV v (1531 + a) 3 j = v j := fun j hj => upV_ne _ _ hj
      have hIO' := closeV_IO (st := 3) hIO c1.1 c1.2 (by omega)
      have hP : PK (upV v (1531 + a) 3) := by
        obtain ⟨g1, g2, g3, g4, g5, g6, g7, g8, g9, g10, g11⟩ := h.1.1
        refine h.1.same ?_ (o _ (by omega)) (fun j hj => o j (by omega))
        unfold Pl
        rw [o 1875 (by omega), o 1885 (by omega), o 1878 (by omega), o 52 (by omega), o 53 (by omega), o 54 (by omega), o 55 (by omega), o 56 (by omega), o 1876 (by omega), o 1877 (by omega), o 1879 (by omega)]
        exact ⟨g1.cg fun j _ _ => o j (by omega), g2.cg (o _ (by omega)) (fun j _ _ => o j (by omega)), hIO', g4.cg (o _ (by omega)) (fun j _ _ => o j (by omega)), g5.cg (o _ (by omega)) (o _ (by omega)) (o _ (by omega)) (fun j _ _ => o j (by omega)), g6, g7, g8, g9, g10, g11⟩
      refine ⟨0, 0, remF (upV v (1531 + a) 3) a, upV v (1531 + a) 3, pushN c, pushH c H v, h.push hP, Or.inl ⟨rfl, rfl⟩, ?_, ?_⟩
      · refine Ev_bd2 (s_save ⟨wr, w0, w1, R⟩ h.2.1 hH) (fun mH' hs' hH' => ?_)
        refine Ev_bd1 (s_close R.2.2.2.1 hb hIO.2.1 c1.1 c1.2 c2 (st := 3) (by decide)) (fun m hm => ?_)
        rw [s_remaining hm.1 hIO' c1.1 (by rw [o _ (by omega)]; exact c1.2), bd1_s]
        refine Ev_some ⟨rfl, fun _ => rfl, ⟨wr, w0, by rw [o _ (by omega)]; exact w1, ?_⟩, hH'⟩
        obtain ⟨R1, R2, R3, R4, R5, R6⟩ := R
        exact ⟨R1.cg (fun k p q => o _ (by omega)) (fun k p q _ _ _ _ => o _ (by omega)), R2.cg (o _ (by omega)) (o _ (by omega)) (fun k p q => o _ (by omega)) (RS.zz hI), R3.cg (o _ (by omega)) (fun k p q => o _ (by omega)), hm.1, R5.cg (o _ (by omega)) (fun k p q => o _ (by omega)), R6.cg (o _ (by omega)) (fun k p q => o _ (by omega))⟩
      · refine m_sv h hM (fun m n sv tv h8 hs h6 hMR hHM => ?_)
        have hM1 := hMR.wr (a := 1531 + a) (by omega) (by omega) 3
        rw [m_remaining hM1 hIO' c1.1 (by rw [o _ (by omega)]; exact c1.2), bd1_s, y_i]
        exact Ev_some ⟨h8, fun _ => rfl, hs, h6, sv, tv, hM1, hHM⟩
    · rw [if_neg (fun q => c2 q.2)] at e2
      have l2 : (v (1531 + a) = 0) = False := eq_false c2
      simp (disch := omega) only [f_X8_cancel, f_X9_cancel, z_c0, z_c1, z_c2, z_c3, z_c1531, y_c0_, y_c3_, z_add, z_sub, z_neg, y_neg, z_mul, z_div, z_l, y_i, y_add, y_sub, y_mul, y_div, z_lt, z_le, z_eq, y_c1, y_c2, y_c3, y_c4, y_c5, z_gi, bd1_s, bd2_s, mul30, z_ofNat, e1, f1, e2, l2, hMR.rd, nIq_1, nSq_0, eq_self, if_true, if_false, lt_eq, iz1, nz1, nz2, nz3, il0, il1, il2, il3, Int.reduceEq, Int.reduceLE, Int.reduceAdd]
      exact ⟨3, 2, 0, v, c, H, h, Or.inr (Or.inr ⟨rfl, rfl⟩), Ev_some ⟨rfl, fun q => absurd q (by decide), ⟨wr, w0, w1, R⟩, hH⟩, m_fail (by decide) hM _⟩
  · rw [if_neg c1] at e1 f1
    simp (disch := omega) only [f_X8_cancel, f_X9_cancel, z_c0, z_c1, z_c2, z_c3, z_c1531, y_c0_, y_c3_, z_add, z_sub, z_neg, y_neg, z_mul, z_div, z_l, y_i, y_add, y_sub, y_mul, y_div, z_lt, z_le, z_eq, y_c1, y_c2, y_c3, y_c4, y_c5, z_gi, bd1_s, bd2_s, mul30, z_ofNat, e1, f1, nIq_0, eq_self, if_true, if_false, lt_eq, iz1, nz1, nz2, nz3, il0, il1, il2, il3, Int.reduceEq, Int.reduceLE, Int.reduceAdd]
    exact ⟨1, 1, 0, v, c, H, h, Or.inr (Or.inl ⟨rfl, rfl⟩), Ev_some ⟨rfl, fun q => absurd q (by decide), ⟨wr, w0, w1, R⟩, hH⟩, m_fail (by decide) hM _⟩
end
