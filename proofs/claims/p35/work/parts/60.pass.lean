/-! hours on end -/
theorem Ev_bd8 {t1 t2 t3 t4 t5 t6 t7 t8 γ : Type} {x : Option (t1 × t2 × t3 × t4 × t5 × t6 × t7 × t8)} {k : t1 → t2 → t3 → t4 → t5 → t6 → t7 → t8 → Option γ} {R : t1 × t2 × t3 × t4 × t5 × t6 × t7 × t8 → Prop} {Q : γ → Prop} (h : Ev x R) (hk : ∀ a b c d e f g i, R (a, b, c, d, e, f, g, i) → Ev (k a b c d e f g i) Q) : Ev (bd8 x k) Q := by
  obtain ⟨⟨a, b, c, d, e, f, g, i⟩, e0, h⟩ := h; rw [e0]; exact hk a b c d e f g i h
theorem Ev_bd9 {t1 t2 t3 t4 t5 t6 t7 t8 t9 γ : Type} {x : Option (t1 × t2 × t3 × t4 × t5 × t6 × t7 × t8 × t9)} {k : t1 → t2 → t3 → t4 → t5 → t6 → t7 → t8 → t9 → Option γ} {R : t1 × t2 × t3 × t4 × t5 × t6 × t7 × t8 × t9 → Prop} {Q : γ → Prop} (h : Ev x R) (hk : ∀ a b c d e f g i j, R (a, b, c, d, e, f, g, i, j) → Ev (k a b c d e f g i j) Q) : Ev (bd9 x k) Q := by
  obtain ⟨⟨a, b, c, d, e, f, g, i, j⟩, e0, h⟩ := h; rw [e0]; exact hk a b c d e f g i j h
/-- a plant's memories hold v -/
def RW (mP : Mem) (nP : MemL) (mS mB mO mR mA : Mem) (nA : MemL) (v : VI) : Prop := ∃ wr : Int, 0 ≤ wr ∧ wr ≤ 20 * v 1875 ∧ RPl wr mP nP mS mB mO mR mA nA v
theorem pass_loop {x b : Int} {sv tv : Nat → Int64} (x1 : x ≤ 48) (b0 : 0 ≤ b) (b1 : b ≤ 400000000) : ∀ (n fu fu2 : Nat) (i : Int) (v : VI) (mP : Mem) (nP : MemL) (mS mB mO mR mA : Mem) (nA : MemL) (mM : Mem) (nM : MemL), 0 ≤ i → i + n = x → n < fu → n < fu2 → Pl v → v 1875 + n ≤ 10048 → RW mP nP mS mB mO mR mA nA v → MR nM v sv tv →
    ∃ v', Ev (f_X4_letPass_L7 (zI x) (zI b) fu (zI i) mP nP mS mB mO mR mA nA) (fun r => r.1 = zI (v' 1877 - b) ∧ RW r.2.1 r.2.2.1 r.2.2.2.1 r.2.2.2.2.1 r.2.2.2.2.2.1 r.2.2.2.2.2.2.1 r.2.2.2.2.2.2.2.1 r.2.2.2.2.2.2.2.2 v') ∧ Ev (f_X9_doPass_L12 (zI x) (zL b) fu2 (zI i) mM nM) (fun r => r.1 = zI (v' 1877 - b) ∧ (∀ j : Nat, j ≠ 3 → r.2.1 j = mM j) ∧ MR r.2.2 v' sv tv) ∧ Pl v' ∧ v' 1875 = v 1875 + n ∧ v' 1882 = v 1882 ∧ v' 1880 = v 1880 ∧ (CW v → CW v') := by
  intro n
  induction n with
  | zero =>
    intro fu fu2 i v mP nP mS mB mO mR mA nA mM nM i0 i1 hf hf2 h ht hR hM
    obtain ⟨fu, rfl⟩ : ∃ m, fu = m + 1 := ⟨fu - 1, by omega⟩
    obtain ⟨fu2, rfl⟩ : ∃ m, fu2 = m + 1 := ⟨fu2 - 1, by omega⟩
    have hR' := hR
    obtain ⟨wr, w0, w1, R1, -⟩ := hR'
    have e9 := R1.2.2.2.2.1
    refine ⟨v, ?_, ?_, h, by omega, rfl, rfl, id⟩
    · simp (disch := omega) only [f_X4_letPass_L7, z_c1, z_add, z_sub, z_neg, y_neg, z_mul, z_div, z_l, y_i, y_add, y_sub, y_mul, y_div, z_lt, z_le, z_eq, y_c1, y_c2, y_c3, y_c4, y_c5, z_gi, bd1_s, bd2_s, mul30, z_ofNat, lt_eq, e9]
      rw [if_pos (by omega)]
      exact Ev_some ⟨rfl, hR⟩
    · simp (disch := omega) only [f_X9_doPass_L12, z_c1, z_c1877, z_add, z_sub, z_neg, y_neg, z_mul, z_div, z_l, y_i, y_add, y_sub, y_mul, y_div, z_lt, z_le, z_eq, y_c1, y_c2, y_c3, y_c4, y_c5, z_gi, bd1_s, bd2_s, mul30, z_ofNat, lt_eq, hM.rd]
      rw [if_pos (by omega)]
      exact Ev_some ⟨rfl, fun _ _ => rfl, hM⟩
  | succ n ih =>
    intro fu fu2 i v mP nP mS mB mO mR mA nA mM nM i0 i1 hf hf2 h ht hR hM
    obtain ⟨fu, rfl⟩ : ∃ m, fu = m + 1 := ⟨fu - 1, by omega⟩
    obtain ⟨fu2, rfl⟩ : ∃ m, fu2 = m + 1 := ⟨fu2 - 1, by omega⟩
    obtain ⟨wr, w0, w1, R⟩ := hR
    have hs := h.2.2.2.2.1.2.1
    obtain ⟨v1, a1, a2, a3, a4, a5, a6, a7⟩ := hour_pair (mM := mM) h w0 (by omega) R hM
    obtain ⟨⟨mP1, nP1, mS1, mB1, mO1, mR1, mA1, nA1⟩, c1, wr1, c2, c3, c4⟩ := a1
    obtain ⟨⟨mM1, nM1⟩, d1, d2, d3⟩ := a2
    obtain ⟨v', g1, g2, g3, g4, g5, g6, g7⟩ := ih fu fu2 (i + 1) v1 mP1 nP1 mS1 mB1 mO1 mR1 mA1 nA1 mM1 nM1 (by omega) (by omega) (by omega) (by omega) (a3 (by omega)) (by omega) ⟨wr1, by omega, by omega, c4⟩ d3
    refine ⟨v', ?_, ?_, g3, by omega, by omega, by omega, fun hc => g7 (a7 hc)⟩
    · simp (disch := omega) only [f_X4_letPass_L7, z_c1, z_add, z_sub, z_neg, y_neg, z_mul, z_div, z_l, y_i, y_add, y_sub, y_mul, y_div, z_lt, z_le, z_eq, y_c1, y_c2, y_c3, y_c4, y_c5, z_gi, bd1_s, bd2_s, mul30, z_ofNat]
      rw [if_neg (by omega), c1]
      exact g1
    · simp (disch := omega) only [f_X9_doPass_L12, z_c1, z_c1877, z_add, z_sub, z_neg, y_neg, z_mul, z_div, z_l, y_i, y_add, y_sub, y_mul, y_div, z_lt, z_le, z_eq, y_c1, y_c2, y_c3, y_c4, y_c5, z_gi, bd1_s, bd2_s, mul30, z_ofNat]
      rw [if_neg (by omega), d1]
      exact Ev_mono g2 fun r hr => ⟨hr.1, fun j hj => (hr.2.1 j hj).trans (d2 j hj), hr.2.2⟩
/-- some hours of a plant, on both sides -/
theorem pass_pair {n : Nat} {v : VI} {mP : Mem} {nP : MemL} {mS mB mO mR mA : Mem} {nA : MemL} {mM : Mem} {nM : MemL} {sv tv : Nat → Int64} (hn : n ≤ 48) (h : Pl v) (ht : v 1875 + n ≤ 10048) (hR : RW mP nP mS mB mO mR mA nA v) (hM : MR nM v sv tv) :
    ∃ v', Ev (f_X4_letPass (zI n) mP nP mS mB mO mR mA nA) (fun r => r.1 = zI (v' 1877 - v 1877) ∧ RW r.2.1 r.2.2.1 r.2.2.2.1 r.2.2.2.2.1 r.2.2.2.2.2.1 r.2.2.2.2.2.2.1 r.2.2.2.2.2.2.2.1 r.2.2.2.2.2.2.2.2 v') ∧ Ev (f_X9_doPass (zI n) mM nM) (fun r => r.1 = zI (v' 1877 - v 1877) ∧ (∀ j : Nat, j ≠ 3 → r.2.1 j = mM j) ∧ MR r.2.2 v' sv tv) ∧ Pl v' ∧ v' 1875 = v 1875 + n ∧ v' 1882 = v 1882 ∧ v' 1880 = v 1880 ∧ (CW v → CW v') := by
  have hb := h.2.2.2.2.2.2.2.2.2.1
  have ht2 := h.2.2.2.2.2.1
  obtain ⟨v', g1, g2, g3⟩ := pass_loop (x := n) (b := v 1877) (sv := sv) (tv := tv) (by omega) hb.1 (by omega) n fuel fuel 0 v mP nP mS mB mO mR mA nA mM nM (by omega) (by omega) (fuel_gt (by omega)) (fuel_gt (by omega)) h (by omega) hR hM
  refine ⟨v', ?_, ?_, g3⟩
  · obtain ⟨wr, w0, w1, R1, -⟩ := hR
    unfold f_X4_letPass
    rw [R1.2.2.2.2.1]
    exact g1
  · unfold f_X9_doPass
    rw [show (1877 : Int32) = zI 1877 from rfl, hM.rd (by omega) (by omega)]
    exact g2
