/-! completeIn, on both sides -/
/-- the end of the reference's search -/
theorem m_comp77 {a i : Int} {u v1 : VI} {mM : Mem} {nM : MemL} {sv tv : Nat → Int64} (a0 : 0 ≤ a) (a1 : a < 200) (hM : MR nM v1 sv tv) (ht : RowL 1888 tv u) (h3 : 0 ≤ v1 (1531 + a) ∧ v1 (1531 + a) ≤ 3) : Ev (f_X9_completeIn_b77 (zI a) (zI i) mM nM) (fun r => r.1 = (if v1 (1531 + a) = 1 then zI i else zI (-1)) ∧ r.2.1 = mM ∧ MR r.2.2 u sv tv) := by
  simp (disch := omega) only [f_X9_completeIn_b77, z_c0, z_c1, z_c1531, y_c1_, z_add, z_sub, z_neg, y_neg, z_mul, z_div, z_l, y_i, y_add, y_sub, y_mul, y_div, z_lt, z_le, z_eq, y_c1, y_c2, y_c3, y_c4, y_c5, z_gi, bd1_s, bd2_s, mul30, z_ofNat, lt_eq, hM.rd]
  by_cases q : v1 (1531 + a) = 1
  · rw [if_pos q, if_pos q]
    simp (disch := omega) only [f_X9_completeIn_b97, z_c0, z_c1, z_add, z_sub, z_neg, y_neg, z_mul, z_div, z_l, y_i, y_add, y_sub, y_mul, y_div, z_lt, z_le, z_eq, y_c1, y_c2, y_c3, y_c4, y_c5, z_gi, bd1_s, bd2_s, mul30, z_ofNat]
    refine Ev_bd1 (m_endTrial hM ht) (fun n hn => ?_)
    rw [if_neg (by omega)]
    exact Ev_some ⟨rfl, rfl, hn⟩
  · rw [if_neg q, if_neg q]
    simp (disch := omega) only [f_X9_completeIn_b97, z_c0, z_c1, z_add, z_sub, z_neg, y_neg, z_mul, z_div, z_l, y_i, y_add, y_sub, y_mul, y_div, z_lt, z_le, z_eq, y_c1, y_c2, y_c3, y_c4, y_c5, z_gi, bd1_s, bd2_s, mul30, z_ofNat]
    refine Ev_bd1 (m_endTrial hM ht) (fun n hn => ?_)
    rw [if_pos trivial]
    exact Ev_some ⟨rfl, rfl, hn⟩
