/-! completeIn, the loop -/
section
variable {v : VI} {c : Int} {H : Int → VI} {imT imdP : Mem} {indP : MemL} {imdS imdB imdO imdR imdA : Mem} {indA : MemL} {mP : Mem} {nP : MemL} {mS mB mO mR mA : Mem} {nA : MemL} {mH : Mem} {hs : Nat → PSt} {mM : Mem} {nM : MemL}
theorem comp_loop {a : Int} {u : VI} {sv tv : Nat → Int64} (ht : RowL 1888 tv u) : ∀ (n fu fu2 : Nat) (i : Int) (v1 : VI) (dP : Mem) (eP : MemL) (dS dB dO dR dA : Mem) (eA : MemL) (mM : Mem) (nM : MemL), 0 ≤ i → i + n = 48 → n < fu → n + 1 < fu2 → Pl v1 → v1 1875 + n ≤ 10048 → RW dP eP dS dB dO dR dA eA v1 → MR nM v1 sv tv → 0 ≤ a → a < v1 1882 → v1 (1531 + a) ≠ 1 →
    ∃ r, Ev (f_X8_completeIn_L41 (zI a) imT mP nP mS mB mO mR mA nA mH hs fu (zI (i + 1)) dP eP dS dB dO dR dA eA) (fun o => o.1 = 0 ∧ o.2.1 = zI r) ∧ Ev (f_X9_completeIn_L46 (zI a) fu2 (zI i) mM nM) (fun o => o.1 = zI r ∧ (∀ j : Nat, j ≠ 3 → o.2.1 j = mM j) ∧ MR o.2.2 u sv tv) := by
  intro n
  induction n with
  | zero =>
    intro fu fu2 i v1 dP eP dS dB dO dR dA eA mM nM i0 i1 hf hf2 h hT hR hM a0 a1 hne
    obtain ⟨fu, rfl⟩ : ∃ m, fu = m + 1 := ⟨fu - 1, by omega⟩
    obtain ⟨fu2, rfl⟩ : ∃ m, fu2 = m + 1 := ⟨fu2 - 1, by omega⟩
    have hIO := h.2.2.1
    have hb := hIO.1
    have h3 := (hIO.2.2 a a0 (by omega)).2.2.2.1
    refine ⟨-1, ?_, ?_⟩
    · simp (disch := omega) only [f_X8_completeIn_L41, z_c0, z_c1, z_c48, z_add, z_sub, z_neg, y_neg, z_mul, z_div, z_l, y_i, y_add, y_sub, y_mul, y_div, z_lt, z_le, z_eq, y_c1, y_c2, y_c3, y_c4, y_c5, z_gi, bd1_s, bd2_s, mul30, z_ofNat]
      rw [if_pos (by omega)]
      exact Ev_some ⟨rfl, rfl⟩
    · simp (disch := omega) only [f_X9_completeIn_L46, z_c0, z_c1, z_c48, z_c1531, y_c0_, z_add, z_sub, z_neg, y_neg, z_mul, z_div, z_l, y_i, y_add, y_sub, y_mul, y_div, z_lt, z_le, z_eq, y_c1, y_c2, y_c3, y_c4, y_c5, z_gi, bd1_s, bd2_s, mul30, z_ofNat]
      rw [if_pos (by omega)]
      refine Ev_mono (m_comp77 a0 (by omega) hM ht h3) (fun r hr => ⟨?_, fun j _ => by rw [hr.2.1], hr.2.2⟩)
      rw [hr.1, if_neg hne]
  | succ n ih =>
    intro fu fu2 i v1 dP eP dS dB dO dR dA eA mM nM i0 i1 hf hf2 h hT hR hM a0 a1 hne
    obtain ⟨fu, rfl⟩ : ∃ m, fu = m + 1 := ⟨fu - 1, by omega⟩
    obtain ⟨fu2, rfl⟩ : ∃ m, fu2 = m + 1 := ⟨fu2 - 1, by omega⟩
    have hIO := h.2.2.1
    have hb := hIO.1
    have h3 := (hIO.2.2 a a0 (by omega)).2.2.2.1
    obtain ⟨wr, w0, w1, R⟩ := hR
    have e1 := s_isOpen R.2.2.2.1 hIO (a := a) (by omega) (by omega)
    by_cases c1 : v1 (1531 + a) = 0
    · rw [if_pos ⟨⟨a0, a1⟩, c1⟩] at e1
      obtain ⟨v', g1, g2, g3, g4, g5, g6⟩ := hour_pair (mM := mM) h w0 (by omega) R hM
      have hPl := g3 (by omega)
      obtain ⟨⟨p1, p2, p3, p4, p5, p6, p7, p8⟩, ep, wr', w2, w3, R'⟩ := g1
      obtain ⟨⟨m1, n1⟩, em, hm, hM'⟩ := g2
      have hIO' := hPl.2.2.1
      have h3' := (hIO'.2.2 a a0 (by omega)).2.2.2.1
      have e2 := s_isComplete R'.2.2.2.1 hIO' a0 (by omega)
      by_cases c2 : v' (1531 + a) = 1
      · rw [if_pos c2] at e2
        refine ⟨i + 1, ?_, ?_⟩
        · simp (disch := omega) only [f_X8_completeIn_L41, z_c0, z_c1, z_c48, z_add, z_sub, z_neg, y_neg, z_mul, z_div, z_l, y_i, y_add, y_sub, y_mul, y_div, z_lt, z_le, z_eq, y_c1, y_c2, y_c3, y_c4, y_c5, z_gi, bd1_s, bd2_s, mul30, z_ofNat, e1]
          rw [if_neg (by omega), if_neg (by omega), ep, bd8_s, e2, bd1_s, if_neg (by decide)]
          exact Ev_some ⟨rfl, rfl⟩
        · simp (disch := omega) only [f_X9_completeIn_L46, z_c0, z_c1, z_c48, z_c1531, y_c0_, z_add, z_sub, z_neg, y_neg, z_mul, z_div, z_l, y_i, y_add, y_sub, y_mul, y_div, z_lt, z_le, z_eq, y_c1, y_c2, y_c3, y_c4, y_c5, z_gi, bd1_s, bd2_s, mul30, z_ofNat, hM.rd]
          obtain ⟨fu2, rfl⟩ : ∃ m, fu2 = m + 1 := ⟨fu2 - 1, by omega⟩
          rw [if_neg (by omega), if_pos c1, em, bd2_s, lt_eq]
          have hE : Ev (f_X9_completeIn_b77 (zI a) (zI (i + 1)) m1 n1) (fun o => o.1 = zI (i + 1) ∧ (∀ j : Nat, j ≠ 3 → o.2.1 j = mM j) ∧ MR o.2.2 u sv tv) := by
            refine Ev_mono (m_comp77 a0 (by omega) hM' ht h3') (fun r hr => ⟨?_, fun j j3 => by rw [hr.2.1]; exact hm j j3, hr.2.2⟩)
            rw [hr.1, if_pos c2]
          have hM2 : MR n1 v' sv tv := hM'
          simp (disch := omega) only [f_X9_completeIn_L46, z_c0, z_c1, z_c48, z_c1531, y_c0_, z_add, z_sub, z_neg, y_neg, z_mul, z_div, z_l, y_i, y_add, y_sub, y_mul, y_div, z_lt, z_le, z_eq, y_c1, y_c2, y_c3, y_c4, y_c5, z_gi, bd1_s, bd2_s, mul30, z_ofNat, hM2.rd]
          by_cases c3 : 48 ≤ i + 1
          · rw [if_pos c3]; exact hE
          · rw [if_neg c3, if_neg (by omega)]; exact hE
      · rw [if_neg c2] at e2
        obtain ⟨r, k1, k2⟩ := ih fu fu2 (i + 1) v' p1 p2 p3 p4 p5 p6 p7 p8 m1 n1 (by omega) (by omega) (by omega) (by omega) hPl (by omega) ⟨wr', by omega, by omega, R'⟩ hM' a0 (by omega) c2
        refine ⟨r, ?_, ?_⟩
        · simp (disch := omega) only [f_X8_completeIn_L41, z_c0, z_c1, z_c48, z_add, z_sub, z_neg, y_neg, z_mul, z_div, z_l, y_i, y_add, y_sub, y_mul, y_div, z_lt, z_le, z_eq, y_c1, y_c2, y_c3, y_c4, y_c5, z_gi, bd1_s, bd2_s, mul30, z_ofNat, e1]
          rw [if_neg (by omega), if_neg (by omega), ep, bd8_s, e2, bd1_s]
          rw [if_pos (by decide)]
          exact k1
        · simp (disch := omega) only [f_X9_completeIn_L46, z_c0, z_c1, z_c48, z_c1531, y_c0_, z_add, z_sub, z_neg, y_neg, z_mul, z_div, z_l, y_i, y_add, y_sub, y_mul, y_div, z_lt, z_le, z_eq, y_c1, y_c2, y_c3, y_c4, y_c5, z_gi, bd1_s, bd2_s, mul30, z_ofNat, hM.rd]
          rw [if_neg (by omega), if_pos c1, em, bd2_s, lt_eq]
          exact Ev_mono k2 (fun o ho => ⟨ho.1, fun j j3 => (ho.2.1 j j3).trans (hm j j3), ho.2.2⟩)
    · rw [if_neg (fun q => c1 q.2)] at e1
      refine ⟨-1, ?_, ?_⟩
      · simp (disch := omega) only [f_X8_completeIn_L41, z_c0, z_c1, z_c48, z_add, z_sub, z_neg, y_neg, z_mul, z_div, z_l, y_i, y_add, y_sub, y_mul, y_div, z_lt, z_le, z_eq, y_c1, y_c2, y_c3, y_c4, y_c5, z_gi, bd1_s, bd2_s, mul30, z_ofNat, e1]
        rw [if_neg (by omega), if_pos trivial]
        exact Ev_some ⟨rfl, rfl⟩
      · simp (disch := omega) only [f_X9_completeIn_L46, z_c0, z_c1, z_c48, z_c1531, y_c0_, z_add, z_sub, z_neg, y_neg, z_mul, z_div, z_l, y_i, y_add, y_sub, y_mul, y_div, z_lt, z_le, z_eq, y_c1, y_c2, y_c3, y_c4, y_c5, z_gi, bd1_s, bd2_s, mul30, z_ofNat, hM.rd]
        rw [if_neg (by omega), if_neg c1]
        refine Ev_mono (m_comp77 a0 (by omega) hM ht h3) (fun r hr => ⟨?_, fun j _ => by rw [hr.2.1], hr.2.2⟩)
        rw [hr.1, if_neg hne]
end
