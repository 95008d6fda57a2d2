/-! the calls that act: pass, undo, pay, addBoat -/
def KAS (k : Nat) (cd : Int) : Prop := k = 0 ∧ cd = 0 ∨ k = 2 ∧ cd = 1 ∨ k = 3 ∧ cd = 2
def KIAS (k : Nat) (cd : Int) : Prop := k = 0 ∧ cd = 0 ∨ k = 1 ∧ cd = 1 ∨ k = 2 ∧ cd = 2 ∨ k = 3 ∧ cd = 3
def KIS (k : Nat) (cd : Int) : Prop := k = 0 ∧ cd = 0 ∨ k = 1 ∧ cd = 1 ∨ k = 3 ∧ cd = 2
def KS (k : Nat) (cd : Int) : Prop := k = 0 ∧ cd = 0 ∨ k = 3 ∧ cd = 1
theorem m_svE {v : VI} {c : Int} {H : Int → VI} {mM : Mem} {nM : MemL} (h : WF v c H) (hM : MS v c H mM nM) : ∃ m n sv tv, f_X9_save (wrI mM 8 (fun _ => zI 0)) nM = some (m, n) ∧ m 8 0 = zI 0 ∧ SM mM m ∧ m 6 0 = zI (pushN c) ∧ MR n v sv tv ∧ HM (pushN c) (pushH c H v) sv := by
  obtain ⟨r, e, a⟩ := m_sv (k := fun m n => some (m, n)) (Q := fun r => r.1 8 0 = zI 0 ∧ SM mM r.1 ∧ r.1 6 0 = zI (pushN c) ∧ ∃ sv tv, MR r.2 v sv tv ∧ HM (pushN c) (pushH c H v) sv) h hM (fun m n sv tv h8 hs h6 h1 h2 => Ev_some ⟨h8, hs, h6, sv, tv, h1, h2⟩)
  obtain ⟨g1, g2, g3, sv, tv, g4, g5⟩ := a
  refine ⟨r.1, r.2, sv, tv, ?_, g1, g2, g3, g4, g5⟩
  generalize f_X9_save (wrI mM 8 (fun _ => zI 0)) nM = q at e
  cases q with
  | none => cases e
  | some q => exact e
section
variable {v : VI} {c : Int} {H : Int → VI} {imT imdP : Mem} {indP : MemL} {imdS imdB imdO imdR imdA : Mem} {indA : MemL} {mP : Mem} {nP : MemL} {mS mB mO mR mA : Mem} {nA : MemL} {mH : Mem} {hs : Nat → PSt} {mM : Mem} {nM : MemL}
theorem p_pass (h : WF v c H) (R : RW mP nP mS mB mO mR mA nA v) (hH : HR c H mH hs) (hM : MS v c H mM nM) {a : Int} (a0 : -2147483648 ≤ a) (a1 : a < 2147483648) :
    ∃ (k : Nat) (cd r : Int) (v' : VI) (c' : Int) (H' : Int → VI), WF v' c' H' ∧ KAS k cd ∧
    Ev (f_X8_pass (zI a) imT imdP indP imdS imdB imdO imdR imdA indA mP nP mS mB mO mR mA nA mH hs) (fun o => o.1 = k ∧ (k = 0 → o.2.1 = zI r) ∧ RW o.2.2.1 o.2.2.2.1 o.2.2.2.2.1 o.2.2.2.2.2.1 o.2.2.2.2.2.2.1 o.2.2.2.2.2.2.2.1 o.2.2.2.2.2.2.2.2.1 o.2.2.2.2.2.2.2.2.2.1 v' ∧ HR c' H' o.2.2.2.2.2.2.2.2.2.2.1 o.2.2.2.2.2.2.2.2.2.2.2) ∧
    Ev (f_X9_pass (zI a) mM nM) (MO cd r k v' c' H' mM) := by
  have hI := h.1.1.2.2.2.2.1
  have hT0 := hI.2.1
  have hT := h.1.2
  have e0 : mP 7 0 = zI (v 1875) := by obtain ⟨wr, w0, w1, R⟩ := R; exact R.1.2.2.1
  obtain ⟨sv, tv, hMR, -⟩ := (hM.w8 (fun _ => zI 0)).2
  have e1 := s_within (a := a) (b := 1) (c := 48) a0 a1 (by omega) (by omega) (by omega) (by omega)
  have f1 := m_in (a := a) (b := 1) (c := 48) (by omega) (by omega) (by omega) (by omega) (by omega) (by omega)
  by_cases c1 : 1 ≤ a ∧ a ≤ 48
  · rw [if_pos c1] at e1 f1
    by_cases c2 : v 1875 + a ≤ 10000
    · have l1 : (v 1875 + a ≤ 10000) = True := eq_true c2
      simp (disch := omega) only [f_X8_pass, f_X8_passFault, f_X9_pass, f_X9_passThrows, z_c0, z_c1, z_c2, z_c3, z_c48, z_c1875, z_c10000, y_c1_, y_c48_, y_c10000_, z_add, z_sub, z_neg, y_neg, z_mul, z_div, z_l, y_i, y_add, y_sub, y_mul, y_div, z_lt, z_le, z_eq, y_c1, y_c2, y_c3, y_c4, y_c5, z_gi, bd1_s, bd2_s, mul30, z_ofNat, e1, f1, e0, l1, hMR.rd, rfq_0, eq_self, if_true, if_false, lt_eq, iz1, nz1, nz2, nz3, il0, il1, il2, il3, Int.reduceEq, Int.reduceLE, Int.reduceAdd]
      obtain ⟨n, rfl⟩ : ∃ n : Nat, a = n := ⟨a.toNat, by omega⟩
      obtain ⟨m, nn, sv', tv', es, h8, hsm, h6, hMR', hHM⟩ := m_svE h hM
      obtain ⟨v', g1, g2, g3, g4, g5, g6, g7⟩ := pass_pair (mM := m) (n := n) (by omega) h.1.1 (by omega) R hMR'
      refine ⟨0, 0, v' 1877 - v 1877, v', pushN c, pushH c H v, h.push ⟨g3, by omega, g7 h.1.2.2⟩, Or.inl ⟨rfl, rfl⟩, ?_, ?_⟩
      · refine Ev_bd2 (s_save R h.2.1 hH) (fun mH' hs' hH' => ?_)
        exact Ev_bd9 g1 (fun a b c d e f g i j hr => Ev_some ⟨rfl, fun _ => hr.1, hr.2, hH'⟩)
      · rw [es, bd2_s]
        refine Ev_bd3 g2 (fun r m2 n2 hr => Ev_some ⟨?_, fun _ => hr.1, fun j j3 j6 j8 => (hr.2.1 j j3).trans (hsm j j3 j6 j8), ?_, sv', tv', hr.2.2, hHM⟩)
        · exact (congrFun (hr.2.1 8 (by decide)) 0).trans h8
        · exact (congrFun (hr.2.1 6 (by decide)) 0).trans h6
    · have l1 : (v 1875 + a ≤ 10000) = False := eq_false c2
      simp (disch := omega) only [f_X8_pass, f_X8_passFault, f_X9_pass, f_X9_passThrows, z_c0, z_c1, z_c2, z_c3, z_c48, z_c1875, z_c10000, y_c1_, y_c48_, y_c10000_, z_add, z_sub, z_neg, y_neg, z_mul, z_div, z_l, y_i, y_add, y_sub, y_mul, y_div, z_lt, z_le, z_eq, y_c1, y_c2, y_c3, y_c4, y_c5, z_gi, bd1_s, bd2_s, mul30, z_ofNat, e1, f1, e0, l1, hMR.rd, rfq_3, eq_self, if_true, if_false, lt_eq, iz1, nz1, nz2, nz3, il0, il1, il2, il3, Int.reduceEq, Int.reduceLE, Int.reduceAdd]
      exact ⟨3, 2, 0, v, c, H, h, Or.inr (Or.inr ⟨rfl, rfl⟩), Ev_some ⟨rfl, fun q => absurd q (by decide), R, hH⟩, m_fail (by decide) hM _⟩
  · rw [if_neg c1] at e1 f1
    simp (disch := omega) only [f_X8_pass, f_X8_passFault, f_X9_pass, f_X9_passThrows, z_c0, z_c1, z_c2, z_c3, z_c48, z_c1875, z_c10000, y_c1_, y_c48_, y_c10000_, z_add, z_sub, z_neg, y_neg, z_mul, z_div, z_l, y_i, y_add, y_sub, y_mul, y_div, z_lt, z_le, z_eq, y_c1, y_c2, y_c3, y_c4, y_c5, z_gi, bd1_s, bd2_s, mul30, z_ofNat, e1, f1, rfq_2, eq_self, if_true, if_false, lt_eq, iz1, nz1, nz2, nz3, il0, il1, il2, il3, Int.reduceEq, Int.reduceLE, Int.reduceAdd]
    exact ⟨2, 1, 0, v, c, H, h, Or.inr (Or.inl ⟨rfl, rfl⟩), Ev_some ⟨rfl, fun q => absurd q (by decide), R, hH⟩, m_fail (by decide) hM _⟩
theorem m_undo0 (w6 : (wrI mM 8 (fun _ => zI 0)) 6 0 = zI 0) : f_X9_undo mM nM = bd2 (f_X9_refuse (zI 1) (wrI mM 8 (fun _ => zI 0)) nM) fun r m => some (r, m, nM) := by
  unfold f_X9_undo
  rw [lt_eq, if_pos (show (wrI mM 8 (fun _ => (0 : Int32))) 6 0 = 0 from w6)]
  rfl
theorem m_undo1 (hc : 0 < c ∧ c ≤ 8) (w6 : (wrI mM 8 (fun _ => zI 0)) 6 0 = zI c) : f_X9_undo mM nM = f_X9_undo_L30 (wrI (wrI mM 8 (fun _ => zI 0)) 6 (fun _ => zI (c - 1))) fuel (zI 0) nM := by
  have l2 : (c = 0) = False := eq_false (by omega)
  unfold f_X9_undo
  rw [z_c0, lt_eq]
  simp (disch := omega) only [z_add, z_sub, z_neg, y_neg, z_mul, z_div, z_l, y_i, y_add, y_sub, y_mul, y_div, z_lt, z_le, z_eq, y_c1, y_c2, y_c3, y_c4, y_c5, z_gi, bd1_s, bd2_s, mul30, z_ofNat, lt_eq, z_c1, w6, l2, eq_self, if_true, if_false, lt_eq, iz1, nz1, nz2, nz3, il0, il1, il2, il3, Int.reduceEq, Int.reduceLE, Int.reduceAdd]
theorem m_undo2 (hc : 0 < c ∧ c ≤ 8) (hM : MS v c H mM nM) : Ev (f_X9_undo_L30 (wrI (wrI mM 8 (fun _ => zI 0)) 6 (fun _ => zI (c - 1))) fuel (zI 0) nM) (MO 0 (c - 1) 0 (H (c - 1)) (c - 1) H mM) := by
  obtain ⟨sv, tv, hMR, hHM⟩ := hM.2
  have w66 : (wrI (wrI mM 8 (fun _ => zI 0)) 6 (fun _ => zI (c - 1))) 6 0 = zI (c - 1) := by rw [wrI_same]
  refine Ev_mono (m_undo30 (c := c - 1) (u := H (c - 1)) (tv := tv) (by omega) w66 (fun i i0 i1 => hHM (c - 1) i (by omega) (by omega) i0 i1) 1888 fuel 0 nM (by omega) (by omega) (fuel_gt (by omega)) hMR.2.1 hMR.2.2 (fun j j0 j1 => by omega)) (fun r hr => ?_)
  obtain ⟨g1, g2, g3⟩ := hr
  refine ⟨?_, fun _ => g1, fun j j3 j6 j8 => ?_, ?_, sv, tv, g3, fun k i k0 k1 i0 i1 => hHM k i k0 (by omega) i0 i1⟩
  · rw [g2, wrI_ne _ _ (by decide), wrI_same]
  · rw [g2, wrI_ne _ _ j6, wrI_ne _ _ j8]
  · rw [g2]; exact w66
theorem p_undo (h : WF v c H) (R : RW mP nP mS mB mO mR mA nA v) (hH : HR c H mH hs) (hM : MS v c H mM nM) :
    ∃ (k : Nat) (cd r : Int) (v' : VI) (c' : Int) (H' : Int → VI), WF v' c' H' ∧ KS k cd ∧
    Ev (f_X8_undo imT imdP indP imdS imdB imdO imdR imdA indA mP nP mS mB mO mR mA nA mH hs) (fun o => o.1 = k ∧ (k = 0 → o.2.1 = zI r) ∧ RW o.2.2.1 o.2.2.2.1 o.2.2.2.2.1 o.2.2.2.2.2.1 o.2.2.2.2.2.2.1 o.2.2.2.2.2.2.2.1 o.2.2.2.2.2.2.2.2.1 o.2.2.2.2.2.2.2.2.2.1 v' ∧ HR c' H' o.2.2.2.2.2.2.2.2.2.2 hs) ∧
    Ev (f_X9_undo mM nM) (MO cd r k v' c' H' mM) := by
  have hc := h.2.1
  have hH0 := hH
  obtain ⟨st, st0, h0, h1, hh⟩ := hH0
  have w6 : (wrI mM 8 (fun _ => zI 0)) 6 0 = zI c := by rw [wrI_ne _ _ (by decide)]; exact hM.1
  by_cases c1 : c = 0
  · have l1 : (c ≤ 0) = True := eq_true (by omega)
    have w60 : (wrI mM 8 (fun _ => zI 0)) 6 0 = zI 0 := by rw [w6, c1]
    rw [m_undo0 w60]
    simp (disch := omega) only [f_X8_undo, f_X8_undo_b15, z_c0, z_c1, z_add, z_sub, z_neg, y_neg, z_mul, z_div, z_l, y_i, y_add, y_sub, y_mul, y_div, z_lt, z_le, z_eq, y_c1, y_c2, y_c3, y_c4, y_c5, z_gi, bd1_s, bd2_s, mul30, z_ofNat, h1, l1, nSq_0, eq_self, if_true, if_false, lt_eq, iz1, nz1, nz2, nz3, il0, il1, il2, il3, Int.reduceEq, Int.reduceLE, Int.reduceAdd]
    exact ⟨3, 1, 0, v, c, H, h, Or.inr ⟨rfl, rfl⟩, Ev_some ⟨rfl, fun q => absurd q (by decide), R, hH⟩, m_fail (by decide) hM _⟩
  · have l1 : (c ≤ 0) = False := eq_false (by omega)
    have l2 : (c = 0) = False := eq_false c1
    simp (disch := omega) only [f_X8_undo, f_X8_undo_b15, z_c0, z_c1, z_add, z_sub, z_neg, y_neg, z_mul, z_div, z_l, y_i, y_add, y_sub, y_mul, y_div, z_lt, z_le, z_eq, y_c1, y_c2, y_c3, y_c4, y_c5, z_gi, bd1_s, bd2_s, mul30, z_ofNat, h1, w6, l1, l2, nSq_1, eq_self, if_true, if_false, lt_eq, iz1, nz1, nz2, nz3, il0, il1, il2, il3, Int.reduceEq, Int.reduceLE, Int.reduceAdd]
    obtain ⟨sv, tv, hMR, hHM⟩ := hM.2
    refine ⟨0, 0, c - 1, H (c - 1), c - 1, H, ⟨h.2.2 (c - 1) (by omega) (by omega), by omega, fun k k0 k1 => h.2.2 k k0 (by omega)⟩, Or.inl ⟨rfl, rfl⟩, ?_, ?_⟩
    · obtain ⟨⟨r, a1, a2, a3, a4, a5, a6, a7, a8, a9⟩, e, g1, g2, g3⟩ := s_restore (mP := mP) (nP := nP) (mS := mS) (mB := mB) (mO := mO) (mR := mR) (mA := mA) (nA := nA) (c := c) (by omega) hH
      rw [e]
      exact Ev_some ⟨rfl, fun _ => g1, g2, g3⟩
    · rw [m_undo1 (by omega) w6]; exact m_undo2 (by omega) hM
end
