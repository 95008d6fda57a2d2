/-! the call order -/
def ordV (v : VI) (b m p u : Int) : VI := upV (upV (upV (upV (upV v 1882 (v 1882 + 1)) (531 + v 1882) b) (731 + v 1882) m) (1131 + v 1882) p) (1331 + v 1882) u
theorem ordV_out {v : VI} {b m p u j : Int} (a1 : j ≠ 1882) (a2 : j ≠ 531 + v 1882) (a3 : j ≠ 731 + v 1882) (a4 : j ≠ 1131 + v 1882) (a5 : j ≠ 1331 + v 1882) : ordV v b m p u j = v j := by
  unfold ordV; rw [upV_ne _ _ a5, upV_ne _ _ a4, upV_ne _ _ a3, upV_ne _ _ a2, upV_ne _ _ a1]
theorem ordV_at {v : VI} {b m p u : Int} (h : 0 ≤ v 1882 ∧ v 1882 < 200) : ordV v b m p u 1882 = v 1882 + 1 ∧ ordV v b m p u (531 + v 1882) = b ∧ ordV v b m p u (731 + v 1882) = m ∧ ordV v b m p u (1131 + v 1882) = p ∧ ordV v b m p u (1331 + v 1882) = u := by
  unfold ordV
  refine ⟨?_, ?_, ?_, ?_, ?_⟩
  · rw [upV_ne _ _ (by omega), upV_ne _ _ (by omega), upV_ne _ _ (by omega), upV_ne _ _ (by omega), upV_same]
  · rw [upV_ne _ _ (by omega), upV_ne _ _ (by omega), upV_ne _ _ (by omega), upV_same]
  · rw [upV_ne _ _ (by omega), upV_ne _ _ (by omega), upV_same]
  · rw [upV_ne _ _ (by omega), upV_same]
  · rw [upV_same]
theorem ordV_open {v : VI} {b m p u : Int} (hI : IOr v) (h : v 1882 < 200) : openC (ordV v b m p u) = openC v + 1 ∧ (∀ i : Int, 0 ≤ i → i < openC v → ordN (ordV v b m p u) i = ordN v i) ∧ ordN (ordV v b m p u) (openC v) = v 1882 := by
  have hb := hI.1
  have z := ((hI.2.2 (v 1882) hb.1 h).2.2.2.2.1 (Int.le_refl _)).2
  have e82 := (ordV_at (b := b) (m := m) (p := p) (u := u) (v := v) ⟨hb.1, h⟩).1
  have sf : ∀ j : Nat, j < (v 1882).toNat + 1 → stF (ordV v b m p u) j = stF v j := fun j hj => by
    show ordV v b m p u (1531 + (j : Int)) = v (1531 + (j : Int))
    exact ordV_out (by omega) (by omega) (by omega) (by omega) (by omega)
  have en : (v 1882 + 1).toNat = (v 1882).toNat + 1 := by omega
  have ec : ((v 1882).toNat : Int) = v 1882 := by omega
  have zf : stF v ((v 1882).toNat : Int) = 0 := by
    show v (1531 + ((v 1882).toNat : Int)) = 0
    rw [ec]; exact z
  have eC : cntZ (stF (ordV v b m p u)) ((v 1882).toNat + 1) = cntZ (stF v) ((v 1882).toNat) + 1 := by
    rw [cntZ_cg (g := stF v) (fun j hj => by rw [sf j hj])]
    show cntZ (stF v) (v 1882).toNat + (if stF v ((v 1882).toNat : Int) = 0 then 1 else 0) = _
    rw [if_pos zf]
  have eN : ∀ i : Int, ordN (ordV v b m p u) i = if cntZ (stF v) (v 1882).toNat = i then v 1882 else ordN v i := fun i => by
    unfold ordN
    rw [e82, en, nthZ_cg (g := stF v) _ i (fun j hj => by rw [sf j hj]), nthZ_succ, ec]
    by_cases q : cntZ (stF v) (v 1882).toNat = i
    · rw [if_pos ⟨by rw [← ec]; exact zf, q⟩, if_pos q]
    · rw [if_neg (fun w => q w.2), if_neg q]
  refine ⟨?_, fun i i0 i1 => ?_, ?_⟩
  · unfold openC; rw [e82, en]; exact eC
  · rw [eN, if_neg]; unfold openC at i1; omega
  · rw [eN]; exact if_pos rfl
theorem ordV_IO {v : VI} {b m p u : Int} (hI : IOr v) (h : v 1882 < 200) (h20 : openC v < 20) (hb : 0 ≤ b ∧ b < v 1881) (hm : 1 ≤ m ∧ m ≤ 9999) (hp : 1 ≤ p ∧ p ≤ 200) (hu : u = 0 ∨ u = 1) : IOr (ordV v b m p u) := by
  have hB := hI.1
  obtain ⟨a1, a2, a3, a4, a5⟩ := ordV_at (b := b) (m := m) (p := p) (u := u) (v := v) ⟨hB.1, h⟩
  refine ⟨by omega, by rw [(ordV_open hI h).1]; omega, fun o o0 o1 => ?_⟩
  have g := hI.2.2 o o0 o1
  rw [ordV_out (j := 931 + o) (by omega) (by omega) (by omega) (by omega) (by omega), ordV_out (j := 1531 + o) (by omega) (by omega) (by omega) (by omega) (by omega), ordV_out (j := 1881) (by omega) (by omega) (by omega) (by omega) (by omega), a1]
  by_cases q : o = v 1882
  · rw [q, a2, a3, a4, a5]; rw [q] at g; omega
  · rw [ordV_out (j := 1131 + o) (by omega) (by omega) (by omega) (by omega) (by omega), ordV_out (j := 1331 + o) (by omega) (by omega) (by omega) (by omega) (by omega), ordV_out (j := 531 + o) (by omega) (by omega) (by omega) (by omega) (by omega), ordV_out (j := 731 + o) (by omega) (by omega) (by omega) (by omega) (by omega)]
    omega
theorem s_isFull {mO : Mem} {v : VI} (h : RO mO v) (hI : IOr v) : f_X3_isFull mO = some (zI (if v 1882 < 200 ∧ openC v < 20 then 0 else 1)) := by
  have hb := hI.1
  have h20 := hI.2.1
  have h0 := openC_0 v
  simp (disch := omega) only [f_X3_isFull, f_X3_isFull_b19, z_c0, z_c1, z_c20, z_c200, z_add, z_sub, z_neg, y_neg, z_mul, z_div, z_l, y_i, y_add, y_sub, y_mul, y_div, z_lt, z_le, z_eq, y_c1, y_c2, y_c3, y_c4, y_c5, z_gi, bd1_s, bd2_s, mul30, z_ofNat, lt_eq, h.1, h.2.1]
  repeat' split
  all_goals first | rfl | (exfalso; omega)
theorem s_place67 {mO : Mem} {v : VI} {b m p u : Int} (hI : IOr v) (h : v 1882 < 200) (h20 : openC v < 20) (q0 : mO 0 0 = zI (v 1882)) (q1 : mO 1 0 = zI (openC v)) (q2 : Row 200 (mO 2) (fun o => ordV v b m p u (531 + o))) (q3 : Row 200 (mO 3) (fun o => ordV v b m p u (731 + o))) (q4 : Row 200 (mO 4) (fun o => ordV v b m p u (931 + o))) (q5 : Row 200 (mO 5) (fun o => ordV v b m p u (1131 + o))) (q6 : Row 200 (mO 6) (fun o => v (1331 + o))) (q7 : Row 200 (mO 7) (fun o => v (1531 + o))) (q8 : ∀ i : Int, 0 ≤ i → i < openC v → mO 8 (zI i).toNatClampNeg = zI (ordN v i)) : Ev (f_X3_place_b67 (zI u) (zI (v 1882)) mO) (fun r => r.1 = zI (v 1882) ∧ RO r.2 (ordV v b m p u)) := by
  have hb := hI.1
  have h0 := openC_0 v
  have z := ((hI.2.2 (v 1882) hb.1 h).2.2.2.2.1 (Int.le_refl _)).2
  obtain ⟨a1, a2, a3, a4, a5⟩ := ordV_at (b := b) (m := m) (p := p) (u := u) (v := v) ⟨hb.1, h⟩
  obtain ⟨o1, o2, o3⟩ := ordV_open (b := b) (m := m) (p := p) (u := u) hI h
  simp (disch := omega) only [f_X3_place_b67, z_c0, z_c1, z_add, z_sub, z_neg, y_neg, z_mul, z_div, z_l, y_i, y_add, y_sub, y_mul, y_div, z_lt, z_le, z_eq, y_c1, y_c2, y_c3, y_c4, y_c5, z_gi, bd1_s, bd2_s, mul30, z_ofNat]
  refine Ev_lt ?_
  simp (disch := omega) only [wrI_ne, q0, z_gi]
  refine Ev_lt ?_
  simp (disch := omega) only [wrI_ne, q0, q1, z_gi]
  refine Ev_lt ?_
  simp (disch := omega) only [wrI_ne, q0, q1, z_add]
  refine Ev_lt ?_
  simp (disch := omega) only [wrI_ne, q0, z_add]
  refine Ev_lt (Ev_some ⟨?_, ?_⟩)
  · show wrI _ 0 (fun _ => zI (v 1882 + 1)) 0 0 - zI 1 = _
    rw [wrI_same, z_sub]; congr 1; omega
  · unfold RO
    simp (disch := omega) only [wrI_ne, wrI_same, a1, o1]
    refine ⟨trivial, trivial, q2, q3, q4, q5, ?_, ?_, fun i i0 i1 => ?_⟩
    · refine (q6.wr hb.1 h (by omega) u).cg fun k k0 k1 => ?_
      by_cases q : k = v 1882
      · rw [q, upV_same]; exact a5
      · rw [upV_ne _ _ q]; exact ordV_out (by omega) (by omega) (by omega) (by omega) (by omega)
    · refine (q7.wr hb.1 h (by omega) 0).cg fun k k0 k1 => ?_
      rw [ordV_out (j := 1531 + k) (by omega) (by omega) (by omega) (by omega) (by omega)]
      by_cases q : k = v 1882
      · rw [q, upV_same]; exact z
      · rw [upV_ne _ _ q]
    · rw [upd_rd _ _ (by omega) (by omega) i0 (by omega)]
      by_cases q : i = openC v
      · rw [if_pos q, q, o3]
      · rw [if_neg q, q8 i i0 (by omega), o2 i i0 (by omega)]
theorem s_place {mO : Mem} {v : VI} {b m p u : Int} (hR : RO mO v) (hI : IOr v) (h : v 1882 < 200) (h20 : openC v < 20) (hu : u = 0 ∨ u = 1) : Ev (f_X3_place (zI b) (zI m) (zI p) (zI u) mO) (fun r => r.1 = zI (v 1882) ∧ RO r.2 (ordV v b m p u)) := by
  have hb := hI.1
  have h0 := openC_0 v
  have z := ((hI.2.2 (v 1882) hb.1 h).2.2.2.2.1 (Int.le_refl _)).1
  obtain ⟨a1, a2, a3, a4, a5⟩ := ordV_at (b := b) (m := m) (p := p) (u := u) (v := v) ⟨hb.1, h⟩
  have ef := s_isFull hR hI
  rw [if_pos ⟨h, h20⟩] at ef
  obtain ⟨g0, g1, g2, g3, g4, g5, g6, g7, g8⟩ := hR
  simp (disch := omega) only [f_X3_place, z_c0, z_c1, z_add, z_sub, z_neg, y_neg, z_mul, z_div, z_l, y_i, y_add, y_sub, y_mul, y_div, z_lt, z_le, z_eq, y_c1, y_c2, y_c3, y_c4, y_c5, z_gi, bd1_s, bd2_s, mul30, z_ofNat, ef, g0]
  rw [if_pos trivial]
  refine Ev_lt ?_
  simp (disch := omega) only [wrI_ne, g0, z_gi]
  refine Ev_lt ?_
  simp (disch := omega) only [wrI_ne, g0, z_gi]
  refine Ev_lt ?_
  simp (disch := omega) only [wrI_ne, g0, z_gi]
  refine Ev_lt ?_
  simp (disch := omega) only [wrI_ne, g0, z_gi]
  have key : Ev (f_X3_place_b67 (zI u) (zI (v 1882)) (wrI (wrI (wrI (wrI mO 2 (upd (mO 2) (zI (v 1882)).toNatClampNeg (zI b))) 3 (upd (mO 3) (zI (v 1882)).toNatClampNeg (zI m))) 4 (upd (mO 4) (zI (v 1882)).toNatClampNeg (zI 0))) 5 (upd (mO 5) (zI (v 1882)).toNatClampNeg (zI p)))) (fun r => r.1 = zI (v 1882) ∧ RO r.2 (ordV v b m p u)) := by
    refine s_place67 hI h h20 ?_ ?_ ?_ ?_ ?_ ?_ ?_ ?_ ?_
    all_goals simp (disch := omega) only [wrI_ne, wrI_same]
    · exact g0
    · exact g1
    · refine (g2.wr hb.1 h (by omega) b).cg fun k k0 k1 => ?_
      by_cases q : k = v 1882
      · rw [q, upV_same]; exact a2
      · rw [upV_ne _ _ q]; exact ordV_out (by omega) (by omega) (by omega) (by omega) (by omega)
    · refine (g3.wr hb.1 h (by omega) m).cg fun k k0 k1 => ?_
      by_cases q : k = v 1882
      · rw [q, upV_same]; exact a3
      · rw [upV_ne _ _ q]; exact ordV_out (by omega) (by omega) (by omega) (by omega) (by omega)
    · refine (g4.wr hb.1 h (by omega) 0).cg fun k k0 k1 => ?_
      rw [ordV_out (j := 931 + k) (by omega) (by omega) (by omega) (by omega) (by omega)]
      by_cases q : k = v 1882
      · rw [q, upV_same]; exact z
      · rw [upV_ne _ _ q]
    · refine (g5.wr hb.1 h (by omega) p).cg fun k k0 k1 => ?_
      by_cases q : k = v 1882
      · rw [q, upV_same]; exact a4
      · rw [upV_ne _ _ q]; exact ordV_out (by omega) (by omega) (by omega) (by omega) (by omega)
    · exact g6
    · exact g7
    · exact g8
  by_cases c : u = 0
  · rw [if_pos c]; rw [c] at key ⊢; exact key
  · rw [if_neg c]
    have c1 : u = 1 := by omega
    rw [c1] at key ⊢; exact key
theorem m_doOrder {mM : Mem} {nM : MemL} {sv tv : Nat → Int64} {v : VI} {b m p u : Int} (hM : MR nM v sv tv) (hI : IOr v) (h : v 1882 < 200) (b0 : -2147483648 ≤ b ∧ b < 2147483648) (m0 : -2147483648 ≤ m ∧ m < 2147483648) (p0 : -2147483648 ≤ p ∧ p < 2147483648) (hu : u = 0 ∨ u = 1) : Ev (f_X9_doOrder (zI b) (zI m) (zI p) (zI u) mM nM) (fun r => r.1 = zI (v 1882) ∧ MR r.2 (ordV v b m p u) sv tv) := by
  have hb := hI.1
  simp (disch := omega) only [f_X9_doOrder, z_c0, z_c531, z_c731, z_c1131, z_c1331, z_c1882, y_c0_, y_c1_, z_add, z_sub, z_neg, y_neg, z_mul, z_div, z_l, y_i, y_add, y_sub, y_mul, y_div, z_lt, z_le, z_eq, y_c1, y_c2, y_c3, y_c4, y_c5, z_gi, bd1_s, bd2_s, mul30, z_ofNat, hM.rd]
  refine Ev_lt ?_
  refine Ev_wr hM (by omega) (by omega) (fun n1 h1 => ?_)
  simp (disch := omega) only [z_add, z_sub, z_neg, y_neg, z_mul, z_div, z_l, y_i, y_add, y_sub, y_mul, y_div, z_lt, z_le, z_eq, y_c1, y_c2, y_c3, y_c4, y_c5, z_gi, bd1_s, bd2_s, mul30, z_ofNat]
  refine Ev_wr h1 (by omega) (by omega) (fun n2 h2 => ?_)
  refine Ev_wr h2 (by omega) (by omega) (fun n3 h3 => ?_)
  refine Ev_wr h3 (by omega) (by omega) (fun n4 h4 => ?_)
  by_cases c : u = 0
  · rw [if_pos c]
    refine Ev_wr h4 (by omega) (by omega) (fun n5 h5 => Ev_some ⟨rfl, ?_⟩)
    rw [c]; exact h5
  · rw [if_neg c]
    have c1 : u = 1 := by omega
    refine Ev_wr h4 (by omega) (by omega) (fun n5 h5 => Ev_some ⟨rfl, ?_⟩)
    rw [c1]; exact h5
section
variable {v : VI} {c : Int} {H : Int → VI} {imT imdP : Mem} {indP : MemL} {imdS imdB imdO imdR imdA : Mem} {indA : MemL} {mP : Mem} {nP : MemL} {mS mB mO mR mA : Mem} {nA : MemL} {mH : Mem} {hs : Nat → PSt} {mM : Mem} {nM : MemL}
theorem p_order (h : WF v c H) (R : RW mP nP mS mB mO mR mA nA v) (hH : HR c H mH hs) (hM : MS v c H mM nM) {a x y u : Int} (a0 : -2147483648 ≤ a) (a1 : a < 2147483648) (x0 : -2147483648 ≤ x) (x1 : x < 2147483648) (y0 : -2147483648 ≤ y) (y1 : y < 2147483648) (hu : u = 0 ∨ u = 1) :
    ∃ (k : Nat) (cd r : Int) (v' : VI) (c' : Int) (H' : Int → VI), WF v' c' H' ∧ KIAS k cd ∧
    Ev (f_X8_order (zI a) (zI x) (zI y) (zI u) imT imdP indP imdS imdB imdO imdR imdA indA mP nP mS mB mO mR mA nA mH hs) (fun o => o.1 = k ∧ (k = 0 → o.2.1 = zI r) ∧ RW mP nP mS mB o.2.2.1 mR mA nA v' ∧ HR c' H' o.2.2.2.1 o.2.2.2.2) ∧
    Ev (f_X9_order (zI a) (zI x) (zI y) (zI u) mM nM) (MO cd r k v' c' H' mM) := by
  obtain ⟨wr, w0, w1, R⟩ := R
  have hI := h.1.1.2.2.2.2.1
  have hIB := h.1.1.2.1
  have hIO := h.1.1.2.2.1
  have hb := hIB.1
  have hb2 := hIO.1
  have h0 := openC_0 v
  have h20 := hIO.2.1
  obtain ⟨sv, tv, hMR, -⟩ := (hM.w8 (fun _ => zI 0)).2
  have e1 := s_hasB R.2.2.1 hIB a0 a1
  have f1 := m_isBoat (mM := wrI mM 8 (fun _ => zI 0)) hMR hIB a0 a1
  have e2 := s_within (a := x) (b := 1) (c := 9999) x0 x1 (by omega) (by omega) (by omega) (by omega)
  have f2 := m_in (a := x) (b := 1) (c := 9999) (by omega) (by omega) (by omega) (by omega) (by omega) (by omega)
  have e3 := s_within (a := y) (b := 1) (c := 200) y0 y1 (by omega) (by omega) (by omega) (by omega)
  have f3 := m_in (a := y) (b := 1) (c := 200) (by omega) (by omega) (by omega) (by omega) (by omega) (by omega)
  have e4 := s_isFull R.2.2.2.1 hIO
  have f4 := m_openMany (mM := wrI mM 8 (fun _ => zI 0)) hMR hIO
  by_cases c1 : 0 ≤ a ∧ a < v 1881
  · rw [if_pos c1] at e1 f1
    by_cases c2 : 1 ≤ x ∧ x ≤ 9999
    · rw [if_pos c2] at e2 f2
      by_cases c3 : 1 ≤ y ∧ y ≤ 200
      · rw [if_pos c3] at e3 f3
        by_cases c4 : v 1882 < 200 ∧ openC v < 20
        · rw [if_pos c4] at e4
          have l1 : (openC v = 20) = False := eq_false (by omega)
          have l2 : (v 1882 = 200) = False := eq_false (by omega)
          simp (disch := omega) only [f_X8_order, f_X8_orderFault, f_X9_order, f_X9_orderThrows, f_X9_orderThrows_b60, z_c0, z_c1, z_c2, z_c3, z_c20, z_c200, z_c1882, z_c9999, y_c1_, y_c200_, y_c9999_, z_add, z_sub, z_neg, y_neg, z_mul, z_div, z_l, y_i, y_add, y_sub, y_mul, y_div, z_lt, z_le, z_eq, y_c1, y_c2, y_c3, y_c4, y_c5, z_gi, bd1_s, bd2_s, mul30, z_ofNat, e1, f1, e2, f2, e3, f3, e4, f4, l1, l2, hMR.rd, rfq_0, eq_self, if_true, if_false, lt_eq, iz1, nz1, nz2, nz3, il0, il1, il2, il3, Int.reduceEq, Int.reduceLE, Int.reduceAdd]
          have eo : ∀ j : Int, ¬ (531 ≤ j ∧ j < 1731) → j ≠ 1882 → ordV v a x y u j = v j := fun j p q => ordV_out q (by omega) (by omega) (by omega) (by omega)
          have hIO' := ordV_IO (b := a) (m := x) (p := y) (u := u) hIO c4.1 c4.2 c1 c2 c3 hu
          have hP : PK (ordV v a x y u) := by
            obtain ⟨g1, g2, g3, g4, g5, g6, g7, g8, g9, g10, g11⟩ := h.1.1
            refine h.1.same ?_ (eo _ (by omega) (by omega)) (fun j hj => eo j (by omega) (by omega))
            unfold Pl
            rw [eo 1875 (by omega) (by omega), eo 1885 (by omega) (by omega), eo 1878 (by omega) (by omega), eo 52 (by omega) (by omega), eo 53 (by omega) (by omega), eo 54 (by omega) (by omega), eo 55 (by omega) (by omega), eo 56 (by omega) (by omega), eo 1876 (by omega) (by omega), eo 1877 (by omega) (by omega), eo 1879 (by omega) (by omega)]
            exact ⟨g1.cg fun j _ _ => eo j (by omega) (by omega), g2.cg (eo _ (by omega) (by omega)) (fun j _ _ => eo j (by omega) (by omega)), hIO', g4.cg (eo _ (by omega) (by omega)) (fun j _ _ => eo j (by omega) (by omega)), g5.cg (eo _ (by omega) (by omega)) (eo _ (by omega) (by omega)) (eo _ (by omega) (by omega)) (fun j _ _ => eo j (by omega) (by omega)), g6, g7, g8, g9, g10, g11⟩
          refine ⟨0, 0, v 1882, ordV v a x y u, pushN c, pushH c H v, h.push hP, Or.inl ⟨rfl, rfl⟩, ?_, ?_⟩
          · refine Ev_bd2 (s_save ⟨wr, w0, w1, R⟩ h.2.1 hH) (fun mH' hs' hH' => ?_)
            refine Ev_bd2 (s_place (b := a) (m := x) (p := y) R.2.2.2.1 hIO c4.1 c4.2 hu) (fun r m hr => Ev_some ⟨rfl, fun _ => hr.1, ⟨wr, w0, by rw [eo _ (by omega) (by omega)]; exact w1, ?_⟩, hH'⟩)
            obtain ⟨R1, R2, R3, R4, R5, R6⟩ := R
            exact ⟨R1.cg (fun k p q => eo _ (by omega) (by omega)) (fun k p q _ _ _ _ => eo _ (by omega) (by omega)), R2.cg (eo _ (by omega) (by omega)) (eo _ (by omega) (by omega)) (fun k p q => eo _ (by omega) (by omega)) (RS.zz hI), R3.cg (eo _ (by omega) (by omega)) (fun k p q => eo _ (by omega) (by omega)), hr.2, R5.cg (eo _ (by omega) (by omega)) (fun k p q => eo _ (by omega) (by omega)), R6.cg (eo _ (by omega) (by omega)) (fun k p q => eo _ (by omega) (by omega))⟩
          · refine m_sv h hM (fun m n sv tv h8 hs h6 hMR hHM => ?_)
            exact Ev_bd2 (m_doOrder hMR hIO c4.1 ⟨a0, a1⟩ ⟨x0, x1⟩ ⟨y0, y1⟩ hu) (fun r m2 hr => Ev_some ⟨h8, fun _ => hr.1, hs, h6, sv, tv, hr.2, hHM⟩)
        · rw [if_neg c4] at e4
          by_cases c5 : openC v = 20
          · have l1 : (openC v = 20) = True := eq_true c5
            simp (disch := omega) only [f_X8_order, f_X8_orderFault, f_X9_order, f_X9_orderThrows, f_X9_orderThrows_b60, z_c0, z_c1, z_c2, z_c3, z_c20, z_c200, z_c1882, z_c9999, y_c1_, y_c200_, y_c9999_, z_add, z_sub, z_neg, y_neg, z_mul, z_div, z_l, y_i, y_add, y_sub, y_mul, y_div, z_lt, z_le, z_eq, y_c1, y_c2, y_c3, y_c4, y_c5, z_gi, bd1_s, bd2_s, mul30, z_ofNat, e1, f1, e2, f2, e3, f3, e4, f4, l1, hMR.rd, rfq_3, eq_self, if_true, if_false, lt_eq, iz1, nz1, nz2, nz3, il0, il1, il2, il3, Int.reduceEq, Int.reduceLE, Int.reduceAdd]
            exact ⟨3, 3, 0, v, c, H, h, Or.inr (Or.inr (Or.inr ⟨rfl, rfl⟩)), Ev_some ⟨rfl, fun q => absurd q (by decide), ⟨wr, w0, w1, R⟩, hH⟩, m_fail (by decide) hM _⟩
          · have l1 : (openC v = 20) = False := eq_false c5
            have l2 : (v 1882 = 200) = True := eq_true (by omega)
            simp (disch := omega) only [f_X8_order, f_X8_orderFault, f_X9_order, f_X9_orderThrows, f_X9_orderThrows_b60, z_c0, z_c1, z_c2, z_c3, z_c20, z_c200, z_c1882, z_c9999, y_c1_, y_c200_, y_c9999_, z_add, z_sub, z_neg, y_neg, z_mul, z_div, z_l, y_i, y_add, y_sub, y_mul, y_div, z_lt, z_le, z_eq, y_c1, y_c2, y_c3, y_c4, y_c5, z_gi, bd1_s, bd2_s, mul30, z_ofNat, e1, f1, e2, f2, e3, f3, e4, f4, l1, l2, hMR.rd, rfq_3, eq_self, if_true, if_false, lt_eq, iz1, nz1, nz2, nz3, il0, il1, il2, il3, Int.reduceEq, Int.reduceLE, Int.reduceAdd]
            exact ⟨3, 3, 0, v, c, H, h, Or.inr (Or.inr (Or.inr ⟨rfl, rfl⟩)), Ev_some ⟨rfl, fun q => absurd q (by decide), ⟨wr, w0, w1, R⟩, hH⟩, m_fail (by decide) hM _⟩
      · rw [if_neg c3] at e3 f3
        simp (disch := omega) only [f_X8_order, f_X8_orderFault, f_X9_order, f_X9_orderThrows, f_X9_orderThrows_b60, z_c0, z_c1, z_c2, z_c3, z_c20, z_c200, z_c1882, z_c9999, y_c1_, y_c200_, y_c9999_, z_add, z_sub, z_neg, y_neg, z_mul, z_div, z_l, y_i, y_add, y_sub, y_mul, y_div, z_lt, z_le, z_eq, y_c1, y_c2, y_c3, y_c4, y_c5, z_gi, bd1_s, bd2_s, mul30, z_ofNat, e1, f1, e2, f2, e3, f3, rfq_2, eq_self, if_true, if_false, lt_eq, iz1, nz1, nz2, nz3, il0, il1, il2, il3, Int.reduceEq, Int.reduceLE, Int.reduceAdd]
        exact ⟨2, 2, 0, v, c, H, h, Or.inr (Or.inr (Or.inl ⟨rfl, rfl⟩)), Ev_some ⟨rfl, fun q => absurd q (by decide), ⟨wr, w0, w1, R⟩, hH⟩, m_fail (by decide) hM _⟩
    · rw [if_neg c2] at e2 f2
      simp (disch := omega) only [f_X8_order, f_X8_orderFault, f_X9_order, f_X9_orderThrows, f_X9_orderThrows_b60, z_c0, z_c1, z_c2, z_c3, z_c20, z_c200, z_c1882, z_c9999, y_c1_, y_c200_, y_c9999_, z_add, z_sub, z_neg, y_neg, z_mul, z_div, z_l, y_i, y_add, y_sub, y_mul, y_div, z_lt, z_le, z_eq, y_c1, y_c2, y_c3, y_c4, y_c5, z_gi, bd1_s, bd2_s, mul30, z_ofNat, e1, f1, e2, f2, rfq_2, eq_self, if_true, if_false, lt_eq, iz1, nz1, nz2, nz3, il0, il1, il2, il3, Int.reduceEq, Int.reduceLE, Int.reduceAdd]
      exact ⟨2, 2, 0, v, c, H, h, Or.inr (Or.inr (Or.inl ⟨rfl, rfl⟩)), Ev_some ⟨rfl, fun q => absurd q (by decide), ⟨wr, w0, w1, R⟩, hH⟩, m_fail (by decide) hM _⟩
  · rw [if_neg c1] at e1 f1
    simp (disch := omega) only [f_X8_order, f_X8_orderFault, f_X9_order, f_X9_orderThrows, f_X9_orderThrows_b60, z_c0, z_c1, z_c2, z_c3, z_c20, z_c200, z_c1882, z_c9999, y_c1_, y_c200_, y_c9999_, z_add, z_sub, z_neg, y_neg, z_mul, z_div, z_l, y_i, y_add, y_sub, y_mul, y_div, z_lt, z_le, z_eq, y_c1, y_c2, y_c3, y_c4, y_c5, z_gi, bd1_s, bd2_s, mul30, z_ofNat, e1, f1, rfq_1, eq_self, if_true, if_false, lt_eq, iz1, nz1, nz2, nz3, il0, il1, il2, il3, Int.reduceEq, Int.reduceLE, Int.reduceAdd]
    exact ⟨1, 1, 0, v, c, H, h, Or.inr (Or.inl ⟨rfl, rfl⟩), Ev_some ⟨rfl, fun q => absurd q (by decide), ⟨wr, w0, w1, R⟩, hH⟩, m_fail (by decide) hM _⟩
end
