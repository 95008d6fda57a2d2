/-! the call execute -/
section
variable {v : VI} {c : Int} {H : Int → VI} {mT imdP : Mem} {indP : MemL} {imdS imdB imdO imdR imdA : Mem} {indA : MemL} {mP : Mem} {nP : MemL} {mS mB mO mR mA : Mem} {nA : MemL} {mH : Mem} {hs : Nat → PSt} {mM : Mem} {nM : MemL} {n : Int} {t : Int → Int}
/-- what execute leaves of the class -/
def CE (k : Nat) (r : Int) (v : VI) (c : Int) (H : Int → VI) (n : Int) (t : Int → Int) (o : CO) : Prop := o.1 = k ∧ (k = 0 → o.2.1 = zI r) ∧ TT n t o.2.2.1 ∧ DOs (o.2.2.2.1, o.2.2.2.2.1, o.2.2.2.2.2.1, o.2.2.2.2.2.2.1, o.2.2.2.2.2.2.2.1, o.2.2.2.2.2.2.2.2.1, o.2.2.2.2.2.2.2.2.2.1, o.2.2.2.2.2.2.2.2.2.2.1) v ∧ HR c H o.2.2.2.2.2.2.2.2.2.2.2.1 o.2.2.2.2.2.2.2.2.2.2.2.2
def ME (cd r : Int) (k : Nat) (v : VI) (c : Int) (H : Int → VI) (n : Int) (t : Int → Int) (o : Int32 × Mem × MemL) : Prop := o.2.1 8 0 = zI cd ∧ (k = 0 → o.1 = zI r) ∧ TM n t o.2.1 ∧ MS v c H o.2.1 o.2.2
theorem u_execute (h : WF v c H) (R : RW mP nP mS mB mO mR mA nA v) (hH : HR c H mH hs) (hS : MS v c H mM nM) (hT : TT n t mT) (hM : TM n t mM) : ∃ (k : Nat) (cd r : Int) (v' : VI) (c' : Int) (H' : Int → VI) (n' : Int), WF v' c' H' ∧ KS k cd ∧
    Ev (f_X8_execute mT imdP indP imdS imdB imdO imdR imdA indA mP nP mS mB mO mR mA nA mH hs) (CE k r v' c' H' n' t) ∧ Ev (f_X9_execute mM nM) (ME cd r k v' c' H' n' t) := by
  have n1 := hT.1
  have eb := errT_b t n1.1
  obtain ⟨f, hf⟩ : ∃ f, fuel = f + 1 := ⟨fuel - 1, by have := fuel_gt (n := 9) (by omega); omega⟩
  have hf9 : 200 < f + 1 := by rw [← hf]; exact fuel_gt (by omega)
  -- the reference's first reading
  have h8 : TM n t (wrI mM 8 (fun _ => (0 : Int32))) := ⟨hM.1, by rw [wrI_ne _ _ (by decide)]; exact hM.2.1, fun k k0 k1 => by rw [wrI_ne _ _ (by decide)]; exact hM.2.2 k k0 k1⟩
  obtain ⟨⟨re, m1⟩, ee, a1, a2⟩ := m_error (nM := nM) h8
  dsimp only at a1 a2
  have hT1 := h8.sr a2
  have e8 : m1 8 0 = zI 0 := by rw [a2 8 (by decide) (by decide) (by decide) (by decide) (by decide), wrI_at]; rfl
  have hS1 : MS v c H m1 nM := hS.keep (by rw [a2 6 (by decide) (by decide) (by decide) (by decide) (by decide), wrI_ne _ _ (by decide)])
  -- the class's
  obtain ⟨mA1, ea, b1, b2, b3⟩ := s_readAll hT
  have exM : f_X9_execute mM nM = (if re = (-1 : Int32) then bd2 (f_X9_save m1 nM) fun m2 n2 => (if (m2 7 0) ≤ 0 then f_X9_execute_b37 (0 : Int32) (0 : Int32) m2 n2 else f_X9_execute_b37 (0 : Int32) (1 : Int32) m2 n2) else bd2 (f_X9_refuse (1 : Int32) m1 nM) fun r m => some (r, m, nM)) := by
    unfold f_X9_execute
    rw [lt_eq, ee, bd2_s]
  by_cases q : (errT t n).1 = 0
  · have exC : f_X8_execute mT imdP indP imdS imdB imdO imdR imdA indA mP nP mS mB mO mR mA nA mH hs = bd2 (f_X2_save mP nP mS mB mO mR mA nA mH hs) fun mH2 hs2 => bd1 (f_X7_start mA1) fun m => f_X8_execute_L45 imdP indP imdS imdB imdO imdR imdA indA mH2 hs2 fuel (0 : Int32) m mP nP mS mB mO mR mA nA := by
      unfold f_X8_execute f_X8_execute_b22
      rw [ea, bd1_s, b3, if_pos (show zI (errT t n).1 = (0 : Int32) by rw [q]; rfl), show f_X8_needState (1 : Int32) = some 0 from nSq_1, bd1_s, if_pos rfl]
    rw [exC, exM, a1]
    have ec : codT (errT t n) = -1 := if_pos q
    rw [ec, if_pos (show zI (-1) = (-1 : Int32) from rfl)]
    obtain ⟨⟨mH2, hs2⟩, es, hH2⟩ := s_save R h.2.1 hH
    obtain ⟨sv, tv, hMR, hHM⟩ := hS1.2
    obtain ⟨⟨m2, n2⟩, em, g1, g2, sv2, g3, g4⟩ := m_save (mM := m1) h.2.1 hS1.1 hHM hMR
    obtain ⟨mA2, et, d1, d2, d3, d4⟩ := s_start b1
    dsimp only at hH2 g1 g2 g3 g4
    rw [es, em, bd2_s, bd2_s, et, bd1_s, hf, z_c0, z_c1]
    have hT2 : TM n t m2 := ⟨hT1.1, by rw [g2 7 (by decide)]; exact hT1.2.1, fun k k0 k1 => by rw [g2 4 (by decide)]; exact hT1.2.2 k k0 k1⟩
    have e82 : m2 8 0 = zI 0 := by rw [g2 8 (by decide)]; exact e8
    have eM : (if m2 7 0 ≤ zI 0 then f_X9_execute_b37 (zI 0) (zI 0) m2 n2 else f_X9_execute_b37 (zI 0) (zI 1) m2 n2) = f_X9_execute_L45 (f + 1) (zI 0) (zI (if 0 < n then 1 else 0)) (zI 0) (wrI m2 9 (fun _ => zI 0)) n2 := by
      unfold f_X9_execute_b37
      rw [hT2.2.1, hf]
      by_cases q2 : 0 < n
      · rw [if_neg (show ¬ zI n ≤ zI 0 from fun r => by rw [z_le (by omega) (by omega) (by omega) (by omega)] at r; omega), if_pos q2, lt_eq]; rfl
      · rw [if_pos (show zI n ≤ zI 0 by rw [z_le (by omega) (by omega) (by omega) (by omega)]; omega), if_neg q2, lt_eq]; rfl
    rw [eM]
    have hT3 := hT2.w9 (fun _ => zI 0)
    have hS3 : SX m2 (wrI m2 9 (fun _ => zI 0)) := SX.w9 (fun _ _ _ _ _ _ _ _ => rfl) _
    have key : GX (f_X8_execute_L45 imdP indP imdS imdB imdO imdR imdA indA mH2 hs2 (f + 1) (zI 0) mA2 mP nP mS mB mO mR mA nA) m2 sv2 tv mH2 hs2 (f_X9_execute_L45 (f + 1) (zI 0) (zI (if 0 < n then 1 else 0)) (zI 0) (wrI m2 9 (fun _ => zI 0)) n2) := by
      by_cases q2 : 0 < n
      · rw [if_pos q2] at d4 ⊢
        have hE : (errF t n 121 0).1 = 0 := by
          have := q
          unfold errT at this
          rw [if_pos q2] at this
          exact this
        obtain ⟨x, hC⟩ := CT_any d1 d2 d3
        obtain ⟨a, d, g, y, hR⟩ := RT_any (mM := wrI m2 9 (fun _ => zI 0)) (wrI_at _ _ _ _)
        exact exec_pair 121 0 0 a d g (f + 1) (f + 1) v x y mA2 mP nP mS mB mO mR mA nA m2 _ n2 hC d4 (Int.le_refl _) (by omega) q2 (Int.le_refl _) (by omega) (by omega) (by omega) hE (by omega) h.1 R g3 hT3 hR hS3
      · rw [if_neg q2] at d4 ⊢
        refine ⟨0, v, h.1, s_E45stop (g := 0) (by omega) d4 d3 R, ?_⟩
        rw [m_L45end (x2 := zI 0) (n := n) n1 (by omega) hT3.2.1 (Or.inr rfl)]
        exact Ev_some ⟨rfl, by dsimp only; rw [wrI_at], hS3.w7 _, g3⟩
    obtain ⟨r, v', hP, hX, hY⟩ := key
    refine ⟨0, 0, r, v', pushN c, pushH c H v, 0, h.push hP, Or.inl ⟨rfl, rfl⟩, Ev_mono hX (fun o ho => ?_), Ev_mono hY (fun o ho => ?_)⟩
    · obtain ⟨o1, o2, o3, o4, o5, o6⟩ := ho
      exact ⟨o1, fun _ => o2, ⟨by omega, o3, fun k k0 k1 => by omega⟩, o4, by rw [o5, o6]; exact hH2⟩
    · obtain ⟨o1, o2, o3, o4⟩ := ho
      exact ⟨by rw [o3 8 (by decide) (by decide) (by decide) (by decide) (by decide) (by decide) (by decide)]; exact e82, fun _ => o1, ⟨by omega, o2, fun k k0 k1 => by omega⟩, by rw [o3 6 (by decide) (by decide) (by decide) (by decide) (by decide) (by decide) (by decide)]; exact g1, sv2, tv, o4, g4⟩
  · have exC : f_X8_execute mT imdP indP imdS imdB imdO imdR imdA indA mP nP mS mB mO mR mA nA mH hs = some (3, 0, mA1, mP, nP, mS, mB, mO, mR, mA, nA, mH, hs) := by
      unfold f_X8_execute f_X8_execute_b22
      rw [ea, bd1_s, b3, if_neg (show ¬ zI (errT t n).1 = (0 : Int32) from z_ne (b := 0) (by omega) (by omega) (by omega) (by omega) q), show f_X8_needState (0 : Int32) = some 3 from nSq_0, bd1_s, if_neg (by decide)]
    rw [exC, exM, a1]
    have ec : codT (errT t n) = 4 * (errT t n).2 + (errT t n).1 := if_neg q
    rw [ec, if_neg (show ¬ zI (4 * (errT t n).2 + (errT t n).1) = (-1 : Int32) from z_ne (b := -1) (by omega) (by omega) (by omega) (by omega) (by omega))]
    unfold f_X9_refuse
    rw [lt_eq, bd2_s]
    refine ⟨3, 1, 0, v, c, H, n, h, Or.inr ⟨rfl, rfl⟩, Ev_some ⟨rfl, fun q => absurd q (by decide), b1, R, hH⟩, Ev_some ⟨?_, fun q => absurd q (by decide), ⟨hT1.1, ?_, fun k k0 k1 => ?_⟩, hS1.keep ?_⟩⟩
    · dsimp only; rw [wrI_at]; rfl
    · dsimp only; rw [wrI_ne _ _ (by decide)]; exact hT1.2.1
    · dsimp only; rw [wrI_ne _ _ (by decide)]; exact hT1.2.2 k k0 k1
    · dsimp only; rw [wrI_ne _ _ (by decide)]
end
