/-! what is weighed -/
def totF (v : VI) (c a : Int) : Int := if a = 0 then v 1875 else if a = 1 then v 1876 else if a = 2 then v 1877 else if a = 3 then v 1878 else if a = 4 then storedF v else if a = 5 then v 1879 else if a = 6 then blocksF v else if a = 7 then v 1880 else if a = 8 then v 1881 else if a = 9 then v 1882 else if a = 10 then openC v else if a = 11 then v 1883 else if a = 12 then v 1884 else if a = 13 then v 1885 else if a = 14 then v 1886 else c
theorem nAN_1 : f_X8_needArgument_N (zI 1) = some () := rfl
theorem nIN_1 : f_X8_needItem_N (zI 1) = some () := rfl
section
variable {v : VI} {c : Int} {H : Int → VI} {imT imdP : Mem} {indP : MemL} {imdS imdB imdO imdR imdA : Mem} {indA : MemL} {mP : Mem} {nP : MemL} {mS mB mO mR mA : Mem} {nA : MemL} {mH : Mem} {hs : Nat → PSt}
theorem n_total (h : WF v c H) (R : RW mP nP mS mB mO mR mA nA v) (hH : HR c H mH hs) {a : Int} (a0 : 0 ≤ a) (a15 : a ≤ 15) : f_L_total_N (zI a) imT imdP indP imdS imdB imdO imdR imdA indA mP nP mS mB mO mR mA nA mH hs = some (zL (totF v c a)) := by
  obtain ⟨wr, w0, w1, R⟩ := R
  have hI := h.1.1.2.2.2.2.1
  have hIB := h.1.1.2.1
  have hIO := h.1.1.2.2.1
  have hIA := h.1.1.2.2.2.1
  have hIP := h.1.1.1
  have hT := h.1.2
  have hT0 := hI.2.1
  have e1 := s_within (a := a) (b := 0) (c := 15) (by omega) (by omega) (by omega) (by omega) (by omega) (by omega)
  obtain ⟨st, -, -, hc1, -⟩ := hH
  have hcb := h.2.1
  obtain ⟨r1, r2, r3, r4, r5, r6, r7, r8⟩ := R.1
  have g76 := h.1.1.2.2.2.2.2.2.2.2.1
  have g77 := h.1.1.2.2.2.2.2.2.2.2.2.1
  have g79 := h.1.1.2.2.2.2.2.2.2.2.2.2
  have s3 := s_melted R.2.1 hI
  have s3e := melted_eq h.1.1
  have s3b : ∀ s : Int, 0 ≤ s → s < 5 → 0 ≤ v (52 + s) ∧ v (52 + s) ≤ 6000 * v 1875 := fun s p q => (hI.2.2.1 s p q).2.2.2.2.1
  have b0 := s3b 0 (by omega) (by omega)
  have b1 := s3b 1 (by omega) (by omega)
  have b2 := s3b 2 (by omega) (by omega)
  have b3 := s3b 3 (by omega) (by omega)
  have b4 := s3b 4 (by omega) (by omega)
  simp only [Int.reduceAdd] at b0 b1 b2 b3 b4
  have h78 := h.1.1.2.2.2.2.2.2.2.1
  rw [s3e] at s3
  have s4 := s_mass R.2.1 hI
  have s4b := storedF_b hI
  have s6 := s_blocks R.2.1 hI
  have s6b := blocksF_b hI
  have t7 := R.2.1.1
  have t8 := R.2.2.1.1
  have t9 := R.2.2.2.1.1
  have t10 := R.2.2.2.1.2.1
  have b10 := openC_0 v
  have b10' := hIO.2.1
  have t13 := (s_kept R.2.2.2.2.1 (by omega)).1
  have t14 := R.2.2.2.2.2.1
  have hb7 := hI.1
  have hb8 := hIB.1
  have hb9 := hIO.1
  have hb13 := h.1.1.2.2.2.2.2.2.1
  have hb14 := hIA.1
  rw [if_pos ⟨a0, a15⟩] at e1
  have hx : a = 0 ∨ a = 1 ∨ a = 2 ∨ a = 3 ∨ a = 4 ∨ a = 5 ∨ a = 6 ∨ a = 7 ∨ a = 8 ∨ a = 9 ∨ a = 10 ∨ a = 11 ∨ a = 12 ∨ a = 13 ∨ a = 14 ∨ a = 15 := by omega
  rcases hx with rfl | rfl | rfl | rfl | rfl | rfl | rfl | rfl | rfl | rfl | rfl | rfl | rfl | rfl | rfl | rfl
  · rw [show totF v c 0 = v 1875 from rfl]
    simp (disch := omega) only [f_L_total_N, f_X8_total_N, f_X4_totalOf, z_c0, z_c1, z_c2, z_c3, z_c4, z_c5, z_c6, z_c7, z_c8, z_c9, z_c10, z_c11, z_c12, z_c13, z_c15, z_add, z_sub, z_neg, y_neg, z_mul, z_div, z_l, y_i, y_add, y_sub, y_mul, y_div, z_lt, z_le, z_eq, y_c1, y_c2, y_c3, y_c4, y_c5, z_gi, bd1_s, bd2_s, mul30, z_ofNat, e1, nAN_1, r3, eq_self, if_true, if_false, lt_eq, iz1, nz1, nz2, nz3, il0, il1, il2, il3, Int.reduceEq, Int.reduceLE, Int.reduceAdd]
  · rw [show totF v c 1 = v 1876 from rfl]
    simp (disch := omega) only [f_L_total_N, f_X8_total_N, f_X4_totalOf, z_c0, z_c1, z_c2, z_c3, z_c4, z_c5, z_c6, z_c7, z_c8, z_c9, z_c10, z_c11, z_c12, z_c13, z_c15, z_add, z_sub, z_neg, y_neg, z_mul, z_div, z_l, y_i, y_add, y_sub, y_mul, y_div, z_lt, z_le, z_eq, y_c1, y_c2, y_c3, y_c4, y_c5, z_gi, bd1_s, bd2_s, mul30, z_ofNat, e1, nAN_1, r4, eq_self, if_true, if_false, lt_eq, iz1, nz1, nz2, nz3, il0, il1, il2, il3, Int.reduceEq, Int.reduceLE, Int.reduceAdd]
  · rw [show totF v c 2 = v 1877 from rfl]
    simp (disch := omega) only [f_L_total_N, f_X8_total_N, f_X4_totalOf, z_c0, z_c1, z_c2, z_c3, z_c4, z_c5, z_c6, z_c7, z_c8, z_c9, z_c10, z_c11, z_c12, z_c13, z_c15, z_add, z_sub, z_neg, y_neg, z_mul, z_div, z_l, y_i, y_add, y_sub, y_mul, y_div, z_lt, z_le, z_eq, y_c1, y_c2, y_c3, y_c4, y_c5, z_gi, bd1_s, bd2_s, mul30, z_ofNat, e1, nAN_1, r5, eq_self, if_true, if_false, lt_eq, iz1, nz1, nz2, nz3, il0, il1, il2, il3, Int.reduceEq, Int.reduceLE, Int.reduceAdd]
  · rw [show totF v c 3 = v 1878 from rfl]
    simp (disch := omega) only [f_L_total_N, f_X8_total_N, f_X4_totalOf, z_c0, z_c1, z_c2, z_c3, z_c4, z_c5, z_c6, z_c7, z_c8, z_c9, z_c10, z_c11, z_c12, z_c13, z_c15, z_add, z_sub, z_neg, y_neg, z_mul, z_div, z_l, y_i, y_add, y_sub, y_mul, y_div, z_lt, z_le, z_eq, y_c1, y_c2, y_c3, y_c4, y_c5, z_gi, bd1_s, bd2_s, mul30, z_ofNat, e1, nAN_1, s3, eq_self, if_true, if_false, lt_eq, iz1, nz1, nz2, nz3, il0, il1, il2, il3, Int.reduceEq, Int.reduceLE, Int.reduceAdd]
  · rw [show totF v c 4 = storedF v from rfl]
    simp (disch := omega) only [f_L_total_N, f_X8_total_N, f_X4_totalOf, z_c0, z_c1, z_c2, z_c3, z_c4, z_c5, z_c6, z_c7, z_c8, z_c9, z_c10, z_c11, z_c12, z_c13, z_c15, z_add, z_sub, z_neg, y_neg, z_mul, z_div, z_l, y_i, y_add, y_sub, y_mul, y_div, z_lt, z_le, z_eq, y_c1, y_c2, y_c3, y_c4, y_c5, z_gi, bd1_s, bd2_s, mul30, z_ofNat, e1, nAN_1, s4, eq_self, if_true, if_false, lt_eq, iz1, nz1, nz2, nz3, il0, il1, il2, il3, Int.reduceEq, Int.reduceLE, Int.reduceAdd]
  · rw [show totF v c 5 = v 1879 from rfl]
    simp (disch := omega) only [f_L_total_N, f_X8_total_N, f_X4_totalOf, z_c0, z_c1, z_c2, z_c3, z_c4, z_c5, z_c6, z_c7, z_c8, z_c9, z_c10, z_c11, z_c12, z_c13, z_c15, z_add, z_sub, z_neg, y_neg, z_mul, z_div, z_l, y_i, y_add, y_sub, y_mul, y_div, z_lt, z_le, z_eq, y_c1, y_c2, y_c3, y_c4, y_c5, z_gi, bd1_s, bd2_s, mul30, z_ofNat, e1, nAN_1, r6, eq_self, if_true, if_false, lt_eq, iz1, nz1, nz2, nz3, il0, il1, il2, il3, Int.reduceEq, Int.reduceLE, Int.reduceAdd]
  · rw [show totF v c 6 = blocksF v from rfl]
    simp (disch := omega) only [f_L_total_N, f_X8_total_N, f_X4_totalOf, z_c0, z_c1, z_c2, z_c3, z_c4, z_c5, z_c6, z_c7, z_c8, z_c9, z_c10, z_c11, z_c12, z_c13, z_c15, z_add, z_sub, z_neg, y_neg, z_mul, z_div, z_l, y_i, y_add, y_sub, y_mul, y_div, z_lt, z_le, z_eq, y_c1, y_c2, y_c3, y_c4, y_c5, z_gi, bd1_s, bd2_s, mul30, z_ofNat, e1, nAN_1, s6, eq_self, if_true, if_false, lt_eq, iz1, nz1, nz2, nz3, il0, il1, il2, il3, Int.reduceEq, Int.reduceLE, Int.reduceAdd]
  · rw [show totF v c 7 = v 1880 from rfl]
    simp (disch := omega) only [f_L_total_N, f_X8_total_N, f_X4_totalOf, z_c0, z_c1, z_c2, z_c3, z_c4, z_c5, z_c6, z_c7, z_c8, z_c9, z_c10, z_c11, z_c12, z_c13, z_c15, z_add, z_sub, z_neg, y_neg, z_mul, z_div, z_l, y_i, y_add, y_sub, y_mul, y_div, z_lt, z_le, z_eq, y_c1, y_c2, y_c3, y_c4, y_c5, z_gi, bd1_s, bd2_s, mul30, z_ofNat, e1, nAN_1, t7, eq_self, if_true, if_false, lt_eq, iz1, nz1, nz2, nz3, il0, il1, il2, il3, Int.reduceEq, Int.reduceLE, Int.reduceAdd]
  · rw [show totF v c 8 = v 1881 from rfl]
    simp (disch := omega) only [f_L_total_N, f_X8_total_N, f_X4_totalOf, z_c0, z_c1, z_c2, z_c3, z_c4, z_c5, z_c6, z_c7, z_c8, z_c9, z_c10, z_c11, z_c12, z_c13, z_c15, z_add, z_sub, z_neg, y_neg, z_mul, z_div, z_l, y_i, y_add, y_sub, y_mul, y_div, z_lt, z_le, z_eq, y_c1, y_c2, y_c3, y_c4, y_c5, z_gi, bd1_s, bd2_s, mul30, z_ofNat, e1, nAN_1, t8, eq_self, if_true, if_false, lt_eq, iz1, nz1, nz2, nz3, il0, il1, il2, il3, Int.reduceEq, Int.reduceLE, Int.reduceAdd]
  · rw [show totF v c 9 = v 1882 from rfl]
    simp (disch := omega) only [f_L_total_N, f_X8_total_N, f_X4_totalOf, z_c0, z_c1, z_c2, z_c3, z_c4, z_c5, z_c6, z_c7, z_c8, z_c9, z_c10, z_c11, z_c12, z_c13, z_c15, z_add, z_sub, z_neg, y_neg, z_mul, z_div, z_l, y_i, y_add, y_sub, y_mul, y_div, z_lt, z_le, z_eq, y_c1, y_c2, y_c3, y_c4, y_c5, z_gi, bd1_s, bd2_s, mul30, z_ofNat, e1, nAN_1, t9, eq_self, if_true, if_false, lt_eq, iz1, nz1, nz2, nz3, il0, il1, il2, il3, Int.reduceEq, Int.reduceLE, Int.reduceAdd]
  · rw [show totF v c 10 = openC v from rfl]
    simp (disch := omega) only [f_L_total_N, f_X8_total_N, f_X4_totalOf, z_c0, z_c1, z_c2, z_c3, z_c4, z_c5, z_c6, z_c7, z_c8, z_c9, z_c10, z_c11, z_c12, z_c13, z_c15, z_add, z_sub, z_neg, y_neg, z_mul, z_div, z_l, y_i, y_add, y_sub, y_mul, y_div, z_lt, z_le, z_eq, y_c1, y_c2, y_c3, y_c4, y_c5, z_gi, bd1_s, bd2_s, mul30, z_ofNat, e1, nAN_1, t10, eq_self, if_true, if_false, lt_eq, iz1, nz1, nz2, nz3, il0, il1, il2, il3, Int.reduceEq, Int.reduceLE, Int.reduceAdd]
  · rw [show totF v c 11 = v 1883 from rfl]
    simp (disch := omega) only [f_L_total_N, f_X8_total_N, f_X4_totalOf, z_c0, z_c1, z_c2, z_c3, z_c4, z_c5, z_c6, z_c7, z_c8, z_c9, z_c10, z_c11, z_c12, z_c13, z_c15, z_add, z_sub, z_neg, y_neg, z_mul, z_div, z_l, y_i, y_add, y_sub, y_mul, y_div, z_lt, z_le, z_eq, y_c1, y_c2, y_c3, y_c4, y_c5, z_gi, bd1_s, bd2_s, mul30, z_ofNat, e1, nAN_1, r7, eq_self, if_true, if_false, lt_eq, iz1, nz1, nz2, nz3, il0, il1, il2, il3, Int.reduceEq, Int.reduceLE, Int.reduceAdd]
  · rw [show totF v c 12 = v 1884 from rfl]
    simp (disch := omega) only [f_L_total_N, f_X8_total_N, f_X4_totalOf, z_c0, z_c1, z_c2, z_c3, z_c4, z_c5, z_c6, z_c7, z_c8, z_c9, z_c10, z_c11, z_c12, z_c13, z_c15, z_add, z_sub, z_neg, y_neg, z_mul, z_div, z_l, y_i, y_add, y_sub, y_mul, y_div, z_lt, z_le, z_eq, y_c1, y_c2, y_c3, y_c4, y_c5, z_gi, bd1_s, bd2_s, mul30, z_ofNat, e1, nAN_1, r8, eq_self, if_true, if_false, lt_eq, iz1, nz1, nz2, nz3, il0, il1, il2, il3, Int.reduceEq, Int.reduceLE, Int.reduceAdd]
  · rw [show totF v c 13 = v 1885 from rfl]
    simp (disch := omega) only [f_L_total_N, f_X8_total_N, f_X4_totalOf, z_c0, z_c1, z_c2, z_c3, z_c4, z_c5, z_c6, z_c7, z_c8, z_c9, z_c10, z_c11, z_c12, z_c13, z_c15, z_add, z_sub, z_neg, y_neg, z_mul, z_div, z_l, y_i, y_add, y_sub, y_mul, y_div, z_lt, z_le, z_eq, y_c1, y_c2, y_c3, y_c4, y_c5, z_gi, bd1_s, bd2_s, mul30, z_ofNat, e1, nAN_1, t13, eq_self, if_true, if_false, lt_eq, iz1, nz1, nz2, nz3, il0, il1, il2, il3, Int.reduceEq, Int.reduceLE, Int.reduceAdd]
  · rw [show totF v c 14 = v 1886 from rfl]
    simp (disch := omega) only [f_L_total_N, f_X8_total_N, f_X4_totalOf, z_c0, z_c1, z_c2, z_c3, z_c4, z_c5, z_c6, z_c7, z_c8, z_c9, z_c10, z_c11, z_c12, z_c13, z_c15, z_add, z_sub, z_neg, y_neg, z_mul, z_div, z_l, y_i, y_add, y_sub, y_mul, y_div, z_lt, z_le, z_eq, y_c1, y_c2, y_c3, y_c4, y_c5, z_gi, bd1_s, bd2_s, mul30, z_ofNat, e1, nAN_1, t14, eq_self, if_true, if_false, lt_eq, iz1, nz1, nz2, nz3, il0, il1, il2, il3, Int.reduceEq, Int.reduceLE, Int.reduceAdd]
  · rw [show totF v c 15 = c from rfl]
    simp (disch := omega) only [f_L_total_N, f_X8_total_N, f_X4_totalOf, z_c0, z_c1, z_c2, z_c3, z_c4, z_c5, z_c6, z_c7, z_c8, z_c9, z_c10, z_c11, z_c12, z_c13, z_c15, z_add, z_sub, z_neg, y_neg, z_mul, z_div, z_l, y_i, y_add, y_sub, y_mul, y_div, z_lt, z_le, z_eq, y_c1, y_c2, y_c3, y_c4, y_c5, z_gi, bd1_s, bd2_s, mul30, z_ofNat, e1, nAN_1, hc1, eq_self, if_true, if_false, lt_eq, iz1, nz1, nz2, nz3, il0, il1, il2, il3, Int.reduceEq, Int.reduceLE, Int.reduceAdd]
theorem n_silo (h : WF v c H) (R : RW mP nP mS mB mO mR mA nA v) {a : Int} (a0 : 0 ≤ a) (a1 : a < v 1880) : f_L_silo_N (zI a) (zI 0) imT imdP indP imdS imdB imdO imdR imdA indA mP nP mS mB mO mR mA nA mH hs = some (zI (v (32 + a))) ∧ f_L_silo_N (zI a) (zI 3) imT imdP indP imdS imdB imdO imdR imdA indA mP nP mS mB mO mR mA nA mH hs = some (zI (v (47 + a))) ∧ f_L_silo_N (zI a) (zI 4) imT imdP indP imdS imdB imdO imdR imdA indA mP nP mS mB mO mR mA nA mH hs = some (zI (rowSum v 207 a)) ∧ f_L_silo_N (zI a) (zI 5) imT imdP indP imdS imdB imdO imdR imdA indA mP nP mS mB mO mR mA nA mH hs = some (zI (v (52 + a))) := by
  obtain ⟨wr, w0, w1, R⟩ := R
  have hI := h.1.1.2.2.2.2.1
  have hb := hI.1
  have e1 := s_hasSilo R.2.1 hI (a := a) (by omega) (by omega)
  rw [if_pos ⟨a0, a1⟩] at e1
  have w0 := s_within (a := 0) (b := 0) (c := 5) (by omega) (by omega) (by omega) (by omega) (by omega) (by omega)
  have w3 := s_within (a := 3) (b := 0) (c := 5) (by omega) (by omega) (by omega) (by omega) (by omega) (by omega)
  have w4 := s_within (a := 4) (b := 0) (c := 5) (by omega) (by omega) (by omega) (by omega) (by omega) (by omega)
  have w5 := s_within (a := 5) (b := 0) (c := 5) (by omega) (by omega) (by omega) (by omega) (by omega) (by omega)
  rw [if_pos (by omega)] at w0 w3 w4 w5
  have rs0 := s_valueIn (a := a) R.2.1.2.2.1 (by decide) (by omega) (by show a < (5 : Int); omega)
  have rs3 := s_valueIn (a := a) R.2.1.2.2.2.2.2.1 (by decide) (by omega) (by show a < (5 : Int); omega)
  have rs5 := s_valueIn (a := a) R.2.1.2.2.2.2.2.2.1 (by decide) (by omega) (by show a < (5 : Int); omega)
  have sm := s_massOne R.2.1 hI a0 a1
  refine ⟨?_, ?_, ?_, ?_⟩
  · simp (disch := omega) only [f_L_silo_N, f_X8_silo_N, f_X6_siloProperty, z_c0, z_c1, z_c2, z_c3, z_c4, z_c5, z_add, z_sub, z_neg, y_neg, z_mul, z_div, z_l, y_i, y_add, y_sub, y_mul, y_div, z_lt, z_le, z_eq, y_c1, y_c2, y_c3, y_c4, y_c5, z_gi, bd1_s, bd2_s, mul30, z_ofNat, e1, w0, nIN_1, nAN_1, rs0, eq_self, if_true, if_false, lt_eq, iz1, nz1, nz2, nz3, il0, il1, il2, il3, Int.reduceEq, Int.reduceLE, Int.reduceAdd]
  · simp (disch := omega) only [f_L_silo_N, f_X8_silo_N, f_X6_siloProperty, z_c0, z_c1, z_c2, z_c3, z_c4, z_c5, z_add, z_sub, z_neg, y_neg, z_mul, z_div, z_l, y_i, y_add, y_sub, y_mul, y_div, z_lt, z_le, z_eq, y_c1, y_c2, y_c3, y_c4, y_c5, z_gi, bd1_s, bd2_s, mul30, z_ofNat, e1, w3, nIN_1, nAN_1, rs3, eq_self, if_true, if_false, lt_eq, iz1, nz1, nz2, nz3, il0, il1, il2, il3, Int.reduceEq, Int.reduceLE, Int.reduceAdd]
  · simp (disch := omega) only [f_L_silo_N, f_X8_silo_N, f_X6_siloProperty, z_c0, z_c1, z_c2, z_c3, z_c4, z_c5, z_add, z_sub, z_neg, y_neg, z_mul, z_div, z_l, y_i, y_add, y_sub, y_mul, y_div, z_lt, z_le, z_eq, y_c1, y_c2, y_c3, y_c4, y_c5, z_gi, bd1_s, bd2_s, mul30, z_ofNat, e1, w4, nIN_1, nAN_1, sm, eq_self, if_true, if_false, lt_eq, iz1, nz1, nz2, nz3, il0, il1, il2, il3, Int.reduceEq, Int.reduceLE, Int.reduceAdd]
  · simp (disch := omega) only [f_L_silo_N, f_X8_silo_N, f_X6_siloProperty, z_c0, z_c1, z_c2, z_c3, z_c4, z_c5, z_add, z_sub, z_neg, y_neg, z_mul, z_div, z_l, y_i, y_add, y_sub, y_mul, y_div, z_lt, z_le, z_eq, y_c1, y_c2, y_c3, y_c4, y_c5, z_gi, bd1_s, bd2_s, mul30, z_ofNat, e1, w5, nIN_1, nAN_1, rs5, eq_self, if_true, if_false, lt_eq, iz1, nz1, nz2, nz3, il0, il1, il2, il3, Int.reduceEq, Int.reduceLE, Int.reduceAdd]
theorem n_boat (h : WF v c H) (R : RW mP nP mS mB mO mR mA nA v) {a : Int} (a0 : 0 ≤ a) (a1 : a < v 1881) : f_L_boat_N (zI a) (zI 1) imT imdP indP imdS imdB imdO imdR imdA indA mP nP mS mB mO mR mA nA mH hs = some (zI (v (515 + a))) ∧ f_L_boat_N (zI a) (zI 2) imT imdP indP imdS imdB imdO imdR imdA indA mP nP mS mB mO mR mA nA mH hs = some (zI (v (523 + a))) ∧ f_L_boat_N (zI a) (zI 3) imT imdP indP imdS imdB imdO imdR imdA indA mP nP mS mB mO mR mA nA mH hs = some (zI (opOf v a)) := by
  obtain ⟨wr, w0, w1, R⟩ := R
  have hIB := h.1.1.2.1
  have hIO := h.1.1.2.2.1
  have hb := hIB.1
  have e1 := s_hasB R.2.2.1 hIB (a := a) (by omega) (by omega)
  rw [if_pos ⟨a0, a1⟩] at e1
  have w1 := s_within (a := 1) (b := 0) (c := 3) (by omega) (by omega) (by omega) (by omega) (by omega) (by omega)
  have w2 := s_within (a := 2) (b := 0) (c := 3) (by omega) (by omega) (by omega) (by omega) (by omega) (by omega)
  have w3 := s_within (a := 3) (b := 0) (c := 3) (by omega) (by omega) (by omega) (by omega) (by omega) (by omega)
  rw [if_pos (by omega)] at w1 w2 w3
  have rs1 := s_valueIn (a := a) R.2.2.1.2.2.1 (by decide) (by omega) (by show a < (8 : Int); omega)
  have rs2 := s_valueIn (a := a) R.2.2.1.2.2.2 (by decide) (by omega) (by show a < (8 : Int); omega)
  have sm := s_openOf R.2.2.2.1 hIO (b := a) (by omega) (by omega) hb.2
  refine ⟨?_, ?_, ?_⟩
  · simp (disch := omega) only [f_L_boat_N, f_X8_boat_N, f_X1_property, z_c0, z_c1, z_c3, z_add, z_sub, z_neg, y_neg, z_mul, z_div, z_l, y_i, y_add, y_sub, y_mul, y_div, z_lt, z_le, z_eq, y_c1, y_c2, y_c3, y_c4, y_c5, z_gi, bd1_s, bd2_s, mul30, z_ofNat, e1, w1, nIN_1, nAN_1, rs1, eq_self, if_true, if_false, lt_eq, iz1, nz1, nz2, nz3, il0, il1, il2, il3, Int.reduceEq, Int.reduceLE, Int.reduceAdd]
  · simp (disch := omega) only [f_L_boat_N, f_X8_boat_N, f_X1_property, z_c0, z_c1, z_c3, z_add, z_sub, z_neg, y_neg, z_mul, z_div, z_l, y_i, y_add, y_sub, y_mul, y_div, z_lt, z_le, z_eq, y_c1, y_c2, y_c3, y_c4, y_c5, z_gi, bd1_s, bd2_s, mul30, z_ofNat, e1, w2, nIN_1, nAN_1, rs2, eq_self, if_true, if_false, lt_eq, iz1, nz1, nz2, nz3, il0, il1, il2, il3, Int.reduceEq, Int.reduceLE, Int.reduceAdd]
  · simp (disch := omega) only [f_L_boat_N, f_X8_boat_N, f_X1_property, z_c0, z_c1, z_c3, z_add, z_sub, z_neg, y_neg, z_mul, z_div, z_l, y_i, y_add, y_sub, y_mul, y_div, z_lt, z_le, z_eq, y_c1, y_c2, y_c3, y_c4, y_c5, z_gi, bd1_s, bd2_s, mul30, z_ofNat, e1, w3, nIN_1, nAN_1, sm, eq_self, if_true, if_false, lt_eq, iz1, nz1, nz2, nz3, il0, il1, il2, il3, Int.reduceEq, Int.reduceLE, Int.reduceAdd]
theorem n_account (h : WF v c H) (R : RW mP nP mS mB mO mR mA nA v) {a : Int} (a0 : 0 ≤ a) (a1 : a < v 1886) : f_L_account_N (zI a) (zI 0) imT imdP indP imdS imdB imdO imdR imdA indA mP nP mS mB mO mR mA nA mH hs = some (zL (v (1811 + a))) ∧ f_L_account_N (zI a) (zI 1) imT imdP indP imdS imdB imdO imdR imdA indA mP nP mS mB mO mR mA nA mH hs = some (zL (v (1827 + a))) ∧ f_L_account_N (zI a) (zI 2) imT imdP indP imdS imdB imdO imdR imdA indA mP nP mS mB mO mR mA nA mH hs = some (zL (v (1843 + a))) ∧ f_L_account_N (zI a) (zI 3) imT imdP indP imdS imdB imdO imdR imdA indA mP nP mS mB mO mR mA nA mH hs = some (zL (v (1859 + a))) := by
  obtain ⟨wr, w0, w1, R⟩ := R
  have hIA := h.1.1.2.2.2.1
  have hb := hIA.1
  have h0 := R.2.2.2.2.2.1
  have e1 := s_within (a := a) (b := 0) (c := v 1886 - 1) (by omega) (by omega) (by omega) (by omega) (by omega) (by omega)
  rw [if_pos ⟨a0, by omega⟩] at e1
  have l0 : (a < 0) = False := eq_false (by omega)
  have l1 : (a < v 1886) = True := eq_true (by omega)
  have g1 := R.2.2.2.2.2.2.1 a a0 (by omega)
  have g2 := R.2.2.2.2.2.2.2.1 a a0 (by omega)
  have g3 := R.2.2.2.2.2.2.2.2.1 a a0 (by omega)
  have g4 := R.2.2.2.2.2.2.2.2.2 a a0 (by omega)
  have hia := hIA.2.1 a a0 (by omega)
  have w0 := s_within (a := 0) (b := 0) (c := 3) (by omega) (by omega) (by omega) (by omega) (by omega) (by omega)
  have w1 := s_within (a := 1) (b := 0) (c := 3) (by omega) (by omega) (by omega) (by omega) (by omega) (by omega)
  have w2 := s_within (a := 2) (b := 0) (c := 3) (by omega) (by omega) (by omega) (by omega) (by omega) (by omega)
  have w3 := s_within (a := 3) (b := 0) (c := 3) (by omega) (by omega) (by omega) (by omega) (by omega) (by omega)
  rw [if_pos (by omega)] at w0 w1 w2 w3
  refine ⟨?_, ?_, ?_, ?_⟩
  · simp (disch := omega) only [f_L_account_N, f_X8_account_N, f_X0_property, z_c0, z_c1, z_c2, z_c3, y_c1_, z_add, z_sub, z_neg, y_neg, z_mul, z_div, z_l, y_i, y_add, y_sub, y_mul, y_div, z_lt, z_le, z_eq, y_c1, y_c2, y_c3, y_c4, y_c5, z_gi, bd1_s, bd2_s, mul30, z_ofNat, h0, e1, w0, nIN_1, nAN_1, l0, l1, g1, eq_self, if_true, if_false, lt_eq, iz1, nz1, nz2, nz3, il0, il1, il2, il3, Int.reduceEq, Int.reduceLE, Int.reduceAdd]
  · simp (disch := omega) only [f_L_account_N, f_X8_account_N, f_X0_property, z_c0, z_c1, z_c2, z_c3, y_c1_, z_add, z_sub, z_neg, y_neg, z_mul, z_div, z_l, y_i, y_add, y_sub, y_mul, y_div, z_lt, z_le, z_eq, y_c1, y_c2, y_c3, y_c4, y_c5, z_gi, bd1_s, bd2_s, mul30, z_ofNat, h0, e1, w1, nIN_1, nAN_1, l0, l1, g2, eq_self, if_true, if_false, lt_eq, iz1, nz1, nz2, nz3, il0, il1, il2, il3, Int.reduceEq, Int.reduceLE, Int.reduceAdd]
  · simp (disch := omega) only [f_L_account_N, f_X8_account_N, f_X0_property, z_c0, z_c1, z_c2, z_c3, y_c1_, z_add, z_sub, z_neg, y_neg, z_mul, z_div, z_l, y_i, y_add, y_sub, y_mul, y_div, z_lt, z_le, z_eq, y_c1, y_c2, y_c3, y_c4, y_c5, z_gi, bd1_s, bd2_s, mul30, z_ofNat, h0, e1, w2, nIN_1, nAN_1, l0, l1, g3, eq_self, if_true, if_false, lt_eq, iz1, nz1, nz2, nz3, il0, il1, il2, il3, Int.reduceEq, Int.reduceLE, Int.reduceAdd]
  · simp (disch := omega) only [f_L_account_N, f_X8_account_N, f_X0_property, z_c0, z_c1, z_c2, z_c3, y_c1_, z_add, z_sub, z_neg, y_neg, z_mul, z_div, z_l, y_i, y_add, y_sub, y_mul, y_div, z_lt, z_le, z_eq, y_c1, y_c2, y_c3, y_c4, y_c5, z_gi, bd1_s, bd2_s, mul30, z_ofNat, h0, e1, w3, nIN_1, nAN_1, l0, l1, g4, eq_self, if_true, if_false, lt_eq, iz1, nz1, nz2, nz3, il0, il1, il2, il3, Int.reduceEq, Int.reduceLE, Int.reduceAdd]
theorem n_find (h : WF v c H) (R : RW mP nP mS mB mO mR mA nA v) {a d : Int} (a0 : 0 ≤ a) (a1 : a < v 1881) (d0 : 0 ≤ d) (d1 : d ≤ 1) : f_L_findAccount_N (zI a) (zI d) imT imdP indP imdS imdB imdO imdR imdA indA mP nP mS mB mO mR mA nA mH hs = some (zI (accOf v a d)) := by
  obtain ⟨wr, w0, w1, R⟩ := R
  have hIB := h.1.1.2.1
  have hIA := h.1.1.2.2.2.1
  have hb := hIB.1
  have e1 := s_hasB R.2.2.1 hIB (a := a) (by omega) (by omega)
  rw [if_pos ⟨a0, a1⟩] at e1
  have e2 := s_within (a := d) (b := 0) (c := 1) (by omega) (by omega) (by omega) (by omega) (by omega) (by omega)
  rw [if_pos ⟨d0, d1⟩] at e2
  have e3 := s_find R.2.2.2.2.2 hIA (b := a) (d := d) (by omega) (by omega) (by omega) (by omega)
  simp (disch := omega) only [f_L_findAccount_N, f_X8_findAccount_N, z_c0, z_c1, z_add, z_sub, z_neg, y_neg, z_mul, z_div, z_l, y_i, y_add, y_sub, y_mul, y_div, z_lt, z_le, z_eq, y_c1, y_c2, y_c3, y_c4, y_c5, z_gi, bd1_s, bd2_s, mul30, z_ofNat, e1, e2, e3, nIN_1, nAN_1, eq_self, if_true, if_false, lt_eq, iz1, nz1, nz2, nz3, il0, il1, il2, il3, Int.reduceEq, Int.reduceLE, Int.reduceAdd]
theorem rowSum_b (h : WF v c H) {s : Int} (s0 : 0 ≤ s) (s1 : s < v 1880) : 0 ≤ rowSum v 207 s ∧ rowSum v 207 s ≤ 6000 := by
  have hI := h.1.1.2.2.2.2.1
  have hb := hI.1
  have hz := hI.sz s0 (show s < 5 by omega)
  have hl := sumR_le (f := fun j => v (207 + (30 * s + j))) (c := 200) (n := (v (47 + s)).toNat) (s := 0) (fun j j0 j1 => by
    have := (hI.blk s0 (show s < 5 by omega) j0 (show j < v (47 + s) by omega)).2.1
    show 0 ≤ v (207 + (30 * s + j)) ∧ v (207 + (30 * s + j)) ≤ 200
    omega)
  unfold rowSum
  omega
theorem w_loop (h : WF v c H) (R : RW mP nP mS mB mO mR mA nA v) (hH : HR c H mH hs) : ∀ (n fu s : Nat), s + n = (v 1880).toNat → n < fu → f_L_isWeighed_L10 imT imdP indP imdS imdB imdO imdR imdA indA mP nP mS mB mO mR mA nA mH hs fu (zL (sumR (fun s => rowSum v 207 s) s 0)) (zL (sumR (fun s => v (52 + s)) s 0)) (zL (sumR (fun s => v (47 + s)) s 0)) (zI s) = some 1 := by
  have hI := h.1.1.2.2.2.2.1
  have hb := hI.1
  have hT := hI.2.1
  have t7 : f_L_total_N (7 : Int32) imT imdP indP imdS imdB imdO imdR imdA indA mP nP mS mB mO mR mA nA mH hs = some (zL (v 1880)) := n_total h R hH (a := 7) (by omega) (by omega)
  intro n
  induction n with
  | zero =>
    intro fu s hsn hf
    obtain ⟨fu, rfl⟩ : ∃ m, fu = m + 1 := ⟨fu - 1, by omega⟩
    have t4 : f_L_total_N (4 : Int32) imT imdP indP imdS imdB imdO imdR imdA indA mP nP mS mB mO mR mA nA mH hs = some (zL (storedF v)) := n_total h R hH (a := 4) (by omega) (by omega)
    have t3 : f_L_total_N (3 : Int32) imT imdP indP imdS imdB imdO imdR imdA indA mP nP mS mB mO mR mA nA mH hs = some (zL (v 1878)) := n_total h R hH (a := 3) (by omega) (by omega)
    have t6 : f_L_total_N (6 : Int32) imT imdP indP imdS imdB imdO imdR imdA indA mP nP mS mB mO mR mA nA mH hs = some (zL (blocksF v)) := n_total h R hH (a := 6) (by omega) (by omega)
    have t1 : f_L_total_N (1 : Int32) imT imdP indP imdS imdB imdO imdR imdA indA mP nP mS mB mO mR mA nA mH hs = some (zL (v 1876)) := n_total h R hH (a := 1) (by omega) (by omega)
    have t2 : f_L_total_N (2 : Int32) imT imdP indP imdS imdB imdO imdR imdA indA mP nP mS mB mO mR mA nA mH hs = some (zL (v 1877)) := n_total h R hH (a := 2) (by omega) (by omega)
    obtain rfl : s = (v 1880).toNat := by omega
    have q1 : sumR (fun s => rowSum v 207 s) (v 1880).toNat 0 = storedF v := rfl
    have q2 : sumR (fun s => v (52 + s)) (v 1880).toNat 0 = v 1878 := melted_eq h.1.1
    have q3 : sumR (fun s => v (47 + s)) (v 1880).toNat 0 = blocksF v := rfl
    have q4 : zL (v 1877) + zL (v 1878) + zL (storedF v) = zL (v 1876) := by
      rw [y_add, y_add]; exact congrArg zL h.1.2.2.1.symm
    rw [q1, q2, q3]
    unfold f_L_isWeighed_L10
    rw [t7, bd1_s, y_i, if_pos (by rw [z_le (by omega) (by omega) (by omega) (by omega)]; omega), t4, bd1_s, if_pos (lg_cmp_self _), t3, bd1_s, if_pos (lg_cmp_self _), t6, bd1_s, if_pos (lg_cmp_self _), t1, bd1_s, t2, bd1_s, bd1_s, bd1_s, q4, if_pos (lg_cmp_self _)]
  | succ n ih =>
    intro fu s hsn hf
    obtain ⟨fu, rfl⟩ : ∃ m, fu = m + 1 := ⟨fu - 1, by omega⟩
    obtain ⟨g0, g3, g4, g5⟩ := n_silo (imT := imT) (imdP := imdP) (indP := indP) (imdS := imdS) (imdB := imdB) (imdO := imdO) (imdR := imdR) (imdA := imdA) (indA := indA) (mH := mH) (hs := hs) h R (a := (s : Int)) (by omega) (by omega)
    have hr := rowSum_b h (s := (s : Int)) (by omega) (by omega)
    have hz := hI.sz (s := (s : Int)) (by omega) (by omega)
    have hm := (hI.2.2.1 (s : Int) (by omega) (by omega)).2.2.2.2.1
    have i1 := ih fu (s + 1) (by omega) (by omega)
    rw [sumR_last, sumR_last, sumR_last, Int.zero_add] at i1
    unfold f_L_isWeighed_L10
    rw [t7, bd1_s, y_i, if_neg (by rw [z_le (by omega) (by omega) (by omega) (by omega)]; omega)]
    rw [show (4 : Int32) = zI 4 from rfl, g4, bd1_s, lt_eq, show (5 : Int32) = zI 5 from rfl, g5, bd1_s, lt_eq, show (3 : Int32) = zI 3 from rfl, g3, bd1_s, lt_eq, bd1_s, show (0 : Int32) = zI 0 from rfl, g0, bd1_s, if_pos (by rw [z_le (by omega) (by omega) (by omega) (by omega)]; omega), lt_eq, z_l (by omega) (by omega), z_l (by omega) (by omega), z_l (by omega) (by omega), y_add, y_add, y_add, show (1 : Int32) = zI 1 from rfl, z_add, show (s : Int) + 1 = ((s + 1 : Nat) : Int) by omega]
    exact i1
theorem w_isWeighed (hI : LQ mP nP mS mB mO mR mA nA mH hs) : f_L_isWeighed imT imdP indP imdS imdB imdO imdR imdA indA mP nP mS mB mO mR mA nA mH hs = some 1 := by
  obtain ⟨v, c, H, h, R, hH⟩ := hI
  have hb := h.1.1.2.2.2.2.1.1
  exact w_loop (imT := imT) (imdP := imdP) (indP := indP) (imdS := imdS) (imdB := imdB) (imdO := imdO) (imdR := imdR) (imdA := imdA) (indA := indA) h R hH (v 1880).toNat fuel 0 (by omega) (fuel_gt (by omega))
end
