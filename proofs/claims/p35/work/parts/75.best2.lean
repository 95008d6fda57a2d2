/-! bestRule, the loop -/
theorem bd9_s' {t1 t2 t3 t4 t5 t6 t7 t8 t9 γ : Type} (a : t1) (b : t2) (c : t3) (d : t4) (e : t5) (f : t6) (g : t7) (i : t8) (j : t9) (k : t1 → t2 → t3 → t4 → t5 → t6 → t7 → t8 → t9 → Option γ) : bd9 (some (a, b, c, d, e, f, g, i, j)) k = k a b c d e f g i j := rfl
theorem bd3_s' {t1 t2 t3 γ : Type} (a : t1) (b : t2) (c : t3) (k : t1 → t2 → t3 → Option γ) : bd3 (some (a, b, c)) k = k a b c := rfl
section
variable {v : VI} {imT : Mem} {mP : Mem} {nP : MemL} {mS mB mO mR mA : Mem} {nA : MemL} {mH : Mem} {hs : Nat → PSt}
theorem best_loop {a : Int} {x : Nat} {sv tv : Nat → Int64} (h : Pl v) (hT : v 1875 ≤ 10000) (R : RW mP nP mS mB mO mR mA nA v) (ht : RowL 1888 tv v) (a0 : 0 ≤ a) (a1 : a < v 1880) (hx : x ≤ 24) : ∀ (n fu fu2 : Nat) (q b d : Int) (dP : Mem) (eP : MemL) (dS dB dO dR dA : Mem) (eA : MemL) (mM : Mem) (nM : MemL), 1 ≤ q → q + n = 4 → n < fu → n < fu2 → -1000000000 ≤ d ∧ d ≤ 1000000000 → MR nM v sv tv →
    ∃ r, Ev (f_X8_bestRule_L38 (zI a) (zI x) imT mP nP mS mB mO mR mA nA mH hs fu (zI b) (zI d) (zI q) dP eP dS dB dO dR dA eA) (fun o => o.1 = 0 ∧ o.2.1 = zI r) ∧ Ev (f_X9_bestRule_L49 (zI a) (zI x) fu2 (zI b) (zL d) (zI q) mM nM) (fun o => o.1 = zI r ∧ (∀ j : Nat, j ≠ 3 → o.2.1 j = mM j) ∧ MR o.2.2 v sv tv) := by
  have hb := h.2.2.2.2.1.1
  intro n
  induction n with
  | zero =>
    intro fu fu2 q b d dP eP dS dB dO dR dA eA mM nM q1 qn hf hf2 hd hM
    obtain ⟨fu, rfl⟩ : ∃ m, fu = m + 1 := ⟨fu - 1, by omega⟩
    obtain ⟨fu2, rfl⟩ : ∃ m, fu2 = m + 1 := ⟨fu2 - 1, by omega⟩
    have hq : q = 4 := by omega
    subst hq
    refine ⟨b, ?_, ?_⟩
    · unfold f_X8_bestRule_L38
      rw [if_pos (by decide)]
      exact Ev_some ⟨rfl, rfl⟩
    · unfold f_X9_bestRule_L49
      rw [if_pos (by decide)]
      exact Ev_some ⟨rfl, fun _ _ => rfl, hM⟩
  | succ n ih =>
    intro fu fu2 q b d dP eP dS dB dO dR dA eA mM nM q1 qn hf hf2 hd hM
    obtain ⟨fu, rfl⟩ : ∃ m, fu = m + 1 := ⟨fu - 1, by omega⟩
    obtain ⟨fu2, rfl⟩ : ∃ m, fu2 = m + 1 := ⟨fu2 - 1, by omega⟩
    obtain ⟨d', hd', g1, m2, n3, m4, g2, g3, g4, g5⟩ := melt_with (imT := imT) (imdP := dP) (indP := eP) (imdS := dS) (imdB := dB) (imdO := dO) (imdR := dR) (imdA := dA) (indA := eA) (mH := mH) (hs := hs) (mM := mM) (n := x) h hT R hM ht a0 a1 (q := q) (by omega) hx
    obtain ⟨⟨r, p1, p2, p3, p4, p5, p6, p7, p8⟩, ep, er⟩ := g1
    have er' : r = zI d' := er
    subst er'
    obtain ⟨n4, e4, hM4⟩ := g5
    have lq : (3 < q) = False := eq_false (by omega)
    have lq4 : (4 ≤ q) = False := eq_false (by omega)
    have lq0 : (q = 0) = False := eq_false (by omega)
    by_cases c : d ≤ d'
    · obtain ⟨r, k1, k2⟩ := ih fu fu2 (q + 1) b d p1 p2 p3 p4 p5 p6 p7 p8 m2 n4 (by omega) (by omega) (by omega) (by omega) hd hM4
      refine ⟨r, ?_, ?_⟩
      · unfold f_X8_bestRule_L38
        rw [z_c3, if_neg (by rw [z_lt (by omega) (by omega) (by omega) (by omega)]; omega), ep, bd9_s', if_pos (by rw [z_le (by omega) (by omega) (by omega) (by omega)]; omega)]
        unfold f_X8_bestRule_b68
        rw [lt_eq, z_c1, z_add]
        exact k1
      · unfold f_X9_bestRule_L49
        rw [z_c4, if_neg (by rw [z_le (by omega) (by omega) (by omega) (by omega)]; omega), z_c37, z_add, z_gi (by omega) (by show 37 + a < (1888 : Int); omega) (by decide), lt_eq, z_l (by omega) (by omega), g2, bd3_s', lt_eq, z_c1878, g4, e4, bd1_s, z_c0, if_neg (by rw [z_eq (by omega) (by omega) (by omega) (by omega)]; omega), if_pos (by rw [y_c1 (by omega) (by omega) (by omega) (by omega)]; omega)]
        unfold f_X9_bestRule_b117
        rw [lt_eq, z_c1, z_add]
        exact Ev_mono k2 (fun o ho => ⟨ho.1, fun j j3 => (ho.2.1 j j3).trans (g3 j j3), ho.2.2⟩)
    · obtain ⟨r, k1, k2⟩ := ih fu fu2 (q + 1) q d' p1 p2 p3 p4 p5 p6 p7 p8 m2 n4 (by omega) (by omega) (by omega) (by omega) hd' hM4
      refine ⟨r, ?_, ?_⟩
      · unfold f_X8_bestRule_L38
        rw [z_c3, if_neg (by rw [z_lt (by omega) (by omega) (by omega) (by omega)]; omega), ep, bd9_s', if_neg (by rw [z_le (by omega) (by omega) (by omega) (by omega)]; omega)]
        unfold f_X8_bestRule_b68
        rw [lt_eq, z_c1, z_add]
        exact k1
      · unfold f_X9_bestRule_L49
        rw [z_c4, if_neg (by rw [z_le (by omega) (by omega) (by omega) (by omega)]; omega), z_c37, z_add, z_gi (by omega) (by show 37 + a < (1888 : Int); omega) (by decide), lt_eq, z_l (by omega) (by omega), g2, bd3_s', lt_eq, z_c1878, g4, e4, bd1_s, z_c0, if_neg (by rw [z_eq (by omega) (by omega) (by omega) (by omega)]; omega), if_neg (by rw [y_c1 (by omega) (by omega) (by omega) (by omega)]; omega)]
        unfold f_X9_bestRule_b110 f_X9_bestRule_b117
        rw [lt_eq, z_c1, z_add]
        exact Ev_mono k2 (fun o ho => ⟨ho.1, fun j j3 => (ho.2.1 j j3).trans (g3 j j3), ho.2.2⟩)
end
