/-! bestRule, whole -/
section
variable {v : VI} {c : Int} {H : Int → VI} {imT imdP : Mem} {indP : MemL} {imdS imdB imdO imdR imdA : Mem} {indA : MemL} {mP : Mem} {nP : MemL} {mS mB mO mR mA : Mem} {nA : MemL} {mH : Mem} {hs : Nat → PSt} {mM : Mem} {nM : MemL}
theorem t_bestRule (h : WF v c H) (R : RW mP nP mS mB mO mR mA nA v) (hM : MS v c H mM nM) {a x : Int} (a0 : -2147483648 ≤ a) (a1 : a < 2147483648) (x0 : -2147483648 ≤ x) (x1 : x < 2147483648) :
    ∃ (k : Nat) (cd r : Int), KC k cd ∧ Ev (f_X8_bestRule (zI a) (zI x) imT imdP indP imdS imdB imdO imdR imdA indA mP nP mS mB mO mR mA nA mH hs) (fun o => o.1 = k ∧ (k = 0 → o.2.1 = zI r)) ∧
    Ev (f_X9_bestRule (zI a) (zI x) mM nM) (MO cd r k v c H mM) := by
  have hI := h.1.1.2.2.2.2.1
  have hb := hI.1
  have R0 := R
  obtain ⟨wr, w0, w1, R⟩ := R
  obtain ⟨sv, tv, hMR, hHM⟩ := (hM.w8 (fun _ => zI 0)).2
  have e1 := s_hasSilo R.2.1 hI a0 a1
  have f1 := m_isSilo (mM := wrI mM 8 (fun _ => zI 0)) hMR hI a0 a1
  have e2 := s_within (a := x) (b := 1) (c := 24) x0 x1 (by omega) (by omega) (by omega) (by omega)
  have f2 := m_in (a := x) (b := 1) (c := 24) (by omega) (by omega) (by omega) (by omega) (by omega) (by omega)
  by_cases c1 : 0 ≤ a ∧ a < v 1880
  · rw [if_pos c1] at e1 f1
    by_cases c2 : 1 ≤ x ∧ x ≤ 24
    · rw [if_pos c2] at e2 f2
      obtain ⟨n, rfl⟩ : ∃ n : Nat, x = n := ⟨x.toNat, by omega⟩
      obtain ⟨n1, en, tv', hM1, ht⟩ := m_beginTrial (mM := wrI mM 8 (fun _ => zI 0)) hMR
      obtain ⟨d, hd, g1, m2, n3, m4, g2, g3, g4, g5⟩ := melt_with (imT := imT) (imdP := imdP) (indP := indP) (imdS := imdS) (imdB := imdB) (imdO := imdO) (imdR := imdR) (imdA := imdA) (indA := indA) (mH := mH) (hs := hs) (mM := wrI mM 8 (fun _ => zI 0)) (n := n) h.1.1 h.1.2.1 R0 hM1 ht c1.1 c1.2 (q := 0) (by omega) (by omega)
      obtain ⟨⟨r, p1, p2, p3, p4, p5, p6, p7, p8⟩, ep, er⟩ := g1
      have er' : r = zI d := er
      subst er'
      obtain ⟨n4, e4, hM4⟩ := g5
      have hfu := fuel_gt (n := 9) (by omega)
      obtain ⟨f, hf⟩ : ∃ f, fuel = f + 1 := ⟨fuel - 1, by omega⟩
      obtain ⟨r, k1, k2⟩ := best_loop (imT := imT) (mH := mH) (hs := hs) (sv := sv) (x := n) h.1.1 h.1.2.1 R0 ht c1.1 c1.2 (by omega) 3 fuel f 1 0 d p1 p2 p3 p4 p5 p6 p7 p8 m2 n4 (by omega) (by omega) (by omega) (by omega) hd hM4
      refine ⟨0, 0, r, Or.inl ⟨rfl, rfl⟩, ?_, ?_⟩
      · unfold f_X8_bestRule
        rw [e1, bd1_s, nIq_1, bd1_s, if_pos rfl, z_c1, z_c24, e2, bd1_s, nAq_1, bd1_s, if_pos rfl, z_c0, ep, bd9_s']
        exact Ev_mono k1 (fun o ho => ⟨ho.1, fun _ => ho.2⟩)
      · unfold f_X9_bestRule
        rw [z_c0, lt_eq, f1, bd1_s, if_neg (by decide), z_l x0 x1, y_c1_, y_c24_, f2, bd1_s, if_neg (by decide), en, bd1_s, hf]
        unfold f_X9_bestRule_L49
        rw [if_neg (by decide), z_c37, z_add, z_gi (by omega) (by show 37 + a < (1888 : Int); omega) (by decide), lt_eq, z_l (by omega) (by omega), g2, bd3_s', lt_eq, z_c1878, g4, e4, bd1_s, if_pos (by decide)]
        unfold f_X9_bestRule_b110 f_X9_bestRule_b117
        rw [lt_eq, z_c1, z_add]
        refine Ev_mono k2 (fun o ho => ?_)
        obtain ⟨s1, s2, s3⟩ := SM.of (fun j j3 => (ho.2.1 j j3).trans (g3 j j3))
        exact ⟨s1, fun _ => ho.1, s2, (congrFun s3 0).trans hM.1, sv, tv', ho.2.2, hHM⟩
    · rw [if_neg c2] at e2 f2
      refine ⟨2, 2, 0, Or.inr (Or.inr ⟨rfl, rfl⟩), ?_, ?_⟩
      · unfold f_X8_bestRule
        rw [e1, bd1_s, nIq_1, bd1_s, if_pos rfl, z_c1, z_c24, e2, bd1_s, nAq_0, bd1_s, if_neg (by decide)]
        exact Ev_some ⟨rfl, fun q => absurd q (by decide)⟩
      · unfold f_X9_bestRule
        rw [z_c0, lt_eq, f1, bd1_s, if_neg (by decide), z_l x0 x1, y_c1_, y_c24_, f2, bd1_s, if_pos rfl]
        exact m_fail (cd := 2) (by decide) hM (fun _ => zI 0)
  · rw [if_neg c1] at e1 f1
    refine ⟨1, 1, 0, Or.inr (Or.inl ⟨rfl, rfl⟩), ?_, ?_⟩
    · unfold f_X8_bestRule
      rw [e1, bd1_s, nIq_0, bd1_s, if_neg (by decide)]
      exact Ev_some ⟨rfl, fun q => absurd q (by decide)⟩
    · unfold f_X9_bestRule
      rw [z_c0, lt_eq, f1, bd1_s, if_pos rfl]
      exact m_fail (cd := 1) (by decide) hM (fun _ => zI 0)
end
