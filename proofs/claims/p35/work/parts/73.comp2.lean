/-! completeIn, whole -/
section
variable {v : VI} {c : Int} {H : Int → VI} {imT imdP : Mem} {indP : MemL} {imdS imdB imdO imdR imdA : Mem} {indA : MemL} {mP : Mem} {nP : MemL} {mS mB mO mR mA : Mem} {nA : MemL} {mH : Mem} {hs : Nat → PSt} {mM : Mem} {nM : MemL}
theorem t_completeIn (h : WF v c H) (R : RW mP nP mS mB mO mR mA nA v) (hM : MS v c H mM nM) {a : Int} (a0 : -2147483648 ≤ a) (a1 : a < 2147483648) :
    ∃ (k : Nat) (cd r : Int), KIS k cd ∧ Ev (f_X8_completeIn (zI a) imT imdP indP imdS imdB imdO imdR imdA indA mP nP mS mB mO mR mA nA mH hs) (fun o => o.1 = k ∧ (k = 0 → o.2.1 = zI r)) ∧
    Ev (f_X9_completeIn (zI a) mM nM) (MO cd r k v c H mM) := by
  have hI := h.1.1.2.2.2.2.1
  have hIO := h.1.1.2.2.1
  have hb := hIO.1
  have hT := h.1.2
  have R0 := R
  obtain ⟨wr, w0, w1, R⟩ := R
  obtain ⟨sv, tv, hMR, hHM⟩ := (hM.w8 (fun _ => zI 0)).2
  have e1 := s_hasO R.2.2.2.1 hb a0 a1
  have f1 := m_isOrder (mM := wrI mM 8 (fun _ => zI 0)) hMR hIO a0 a1
  have e2 := s_isOpen R.2.2.2.1 hIO a0 a1
  by_cases c1 : 0 ≤ a ∧ a < v 1882
  · rw [if_pos c1] at e1 f1
    have hst := (hIO.2.2 a c1.1 (by omega)).2.2.2.1
    by_cases c2 : v (1531 + a) = 0
    · rw [if_pos ⟨c1, c2⟩] at e2
      obtain ⟨n1, en, tv', hM1, ht⟩ := m_beginTrial (mM := wrI mM 8 (fun _ => zI 0)) hMR
      obtain ⟨⟨d1, d2, d3, d4, d5, d6, d7, d8⟩, ec, hd⟩ := copy_rw (mP := imdP) (nP := indP) (mS := imdS) (mB := imdB) (mO := imdO) (mR := imdR) (mA := imdA) (nA := indA) R0
      obtain ⟨r, k1, k2⟩ := comp_loop (imT := imT) (mP := mP) (nP := nP) (mS := mS) (mB := mB) (mO := mO) (mR := mR) (mA := mA) (nA := nA) (mH := mH) (hs := hs) (a := a) ht 48 fuel fuel 0 v d1 d2 d3 d4 d5 d6 d7 d8 (wrI mM 8 (fun _ => zI 0)) n1 (by omega) (by omega) (fuel_gt (by omega)) (fuel_gt (by omega)) h.1.1 (by omega) hd hM1 c1.1 c1.2 (by omega)
      rw [show (0 : Int) + 1 = 1 from rfl] at k1
      refine ⟨0, 0, r, Or.inl ⟨rfl, rfl⟩, ?_, ?_⟩
      · unfold f_X8_completeIn
        rw [e1, bd1_s, nIq_1, bd1_s, if_pos rfl, e2, bd1_s, nSq_1, bd1_s, if_pos rfl, ec, bd8_s, z_c1]
        exact Ev_mono k1 (fun o ho => ⟨ho.1, fun _ => ho.2⟩)
      · unfold f_X9_completeIn
        rw [z_c0, lt_eq, f1, bd1_s, if_neg (by decide)]
        have g15 : (1531 : Int32) + zI a = zI (1531 + a) := z_add 1531 a
        have rd := hMR.rd (a := 1531 + a) (by omega) (by omega)
        rw [g15, z_gi (by omega) (by show 1531 + a < (1888 : Int); omega) (by decide), rd, c2, if_pos (by decide), en, bd1_s]
        refine Ev_mono k2 (fun o ho => ?_)
        obtain ⟨s1, s2, s3⟩ := SM.of ho.2.1
        exact ⟨s1, fun _ => ho.1, s2, (congrFun s3 0).trans hM.1, sv, tv', ho.2.2, hHM⟩
    · rw [if_neg (fun q => c2 q.2)] at e2
      refine ⟨3, 2, 0, Or.inr (Or.inr ⟨rfl, rfl⟩), ?_, ?_⟩
      · unfold f_X8_completeIn
        rw [e1, bd1_s, nIq_1, bd1_s, if_pos rfl, e2, bd1_s, nSq_0, bd1_s, if_neg (by decide)]
        exact Ev_some ⟨rfl, fun q => absurd q (by decide)⟩
      · unfold f_X9_completeIn
        rw [z_c0, lt_eq, f1, bd1_s, if_neg (by decide)]
        have g15 : (1531 : Int32) + zI a = zI (1531 + a) := z_add 1531 a
        have rd := hMR.rd (a := 1531 + a) (by omega) (by omega)
        have cq : ¬ (lg_cmp (zL (v (1531 + a))) (0 : Int64) = zI 0) := fun q => c2 ((y_c3 (a := v (1531 + a)) (b := 0) (by omega) (by omega) (by omega) (by omega)).mp q)
        rw [g15, z_gi (by omega) (by show 1531 + a < (1888 : Int); omega) (by decide), rd, if_neg cq]
        exact m_fail (cd := 2) (by decide) hM (fun _ => zI 0)
  · rw [if_neg c1] at e1 f1
    refine ⟨1, 1, 0, Or.inr (Or.inl ⟨rfl, rfl⟩), ?_, ?_⟩
    · unfold f_X8_completeIn
      rw [e1, bd1_s, nIq_0, bd1_s, if_neg (by decide)]
      exact Ev_some ⟨rfl, fun q => absurd q (by decide)⟩
    · unfold f_X9_completeIn
      rw [z_c0, lt_eq, f1, bd1_s, if_pos (by rfl)]
      exact m_fail (cd := 1) (by decide) hM (fun _ => zI 0)
end
