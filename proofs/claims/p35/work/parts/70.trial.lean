/-! the questions that try: massAfter, completeIn, bestRule -/
theorem SM.of {mM m : Mem} (h : ∀ j : Nat, j ≠ 3 → m j = (wrI mM 8 (fun _ => zI 0)) j) : m 8 0 = zI 0 ∧ SM mM m ∧ m 6 = mM 6 :=
  ⟨by rw [h 8 (by decide), wrI_same], fun j j3 _ j8 => by rw [h j j3, wrI_ne _ _ j8], by rw [h 6 (by decide), wrI_ne _ _ (by decide)]⟩
theorem bd8_s {t1 t2 t3 t4 t5 t6 t7 t8 γ : Type} (a : t1) (b : t2) (c : t3) (d : t4) (e : t5) (f : t6) (g : t7) (i : t8) (k : t1 → t2 → t3 → t4 → t5 → t6 → t7 → t8 → Option γ) : bd8 (some (a, b, c, d, e, f, g, i)) k = k a b c d e f g i := rfl
section
variable {v : VI} {c : Int} {H : Int → VI} {imT imdP : Mem} {indP : MemL} {imdS imdB imdO imdR imdA : Mem} {indA : MemL} {mP : Mem} {nP : MemL} {mS mB mO mR mA : Mem} {nA : MemL} {mH : Mem} {hs : Nat → PSt} {mM : Mem} {nM : MemL}
theorem t_massAfter (h : WF v c H) (R : RW mP nP mS mB mO mR mA nA v) (hM : MS v c H mM nM) {a : Int} (a0 : -2147483648 ≤ a) (a1 : a < 2147483648) :
    ∃ (k : Nat) (cd r : Int), KA k cd ∧ Ev (f_X8_massAfter (zI a) imT imdP indP imdS imdB imdO imdR imdA indA mP nP mS mB mO mR mA nA mH hs) (fun o => o.1 = k ∧ (k = 0 → o.2.1 = zI r)) ∧
    Ev (f_X9_massAfter (zI a) mM nM) (MO cd r k v c H mM) := by
  have hI := h.1.1.2.2.2.2.1
  have hT := h.1.2
  obtain ⟨sv, tv, hMR, hHM⟩ := (hM.w8 (fun _ => zI 0)).2
  have e1 := s_within (a := a) (b := 0) (c := 48) a0 a1 (by omega) (by omega) (by omega) (by omega)
  have f1 := m_in (a := a) (b := 0) (c := 48) (by omega) (by omega) (by omega) (by omega) (by omega) (by omega)
  by_cases c1 : 0 ≤ a ∧ a ≤ 48
  · rw [if_pos c1] at e1 f1
    obtain ⟨n, rfl⟩ : ∃ n : Nat, a = n := ⟨a.toNat, by omega⟩
    obtain ⟨n1, en, tv', hM1, ht⟩ := m_beginTrial (mM := wrI mM 8 (fun _ => zI 0)) hMR
    obtain ⟨⟨d1, d2, d3, d4, d5, d6, d7, d8⟩, ec, hd⟩ := copy_rw (mP := imdP) (nP := indP) (mS := imdS) (mB := imdB) (mO := imdO) (mR := imdR) (mA := imdA) (nA := indA) R
    obtain ⟨v', g1, g2, g3, g4, g5, g6⟩ := pass_pair (mM := wrI mM 8 (fun _ => zI 0)) (n := n) (by omega) h.1.1 (by omega) hd hM1
    have hI' := g3.2.2.2.2.1
    refine ⟨0, 0, storedF v', Or.inl ⟨rfl, rfl⟩, ?_, ?_⟩
    · unfold f_X8_massAfter
      rw [z_c0, z_c48, e1, bd1_s, nAq_1, bd1_s, if_pos rfl, ec, bd8_s]
      refine Ev_bd9 g1 (fun a b c d e f g i j hr => ?_)
      obtain ⟨-, wr, -, -, R'⟩ := hr
      rw [s_mass R'.2.1 hI', bd1_s]
      exact Ev_some ⟨rfl, fun _ => rfl⟩
    · unfold f_X9_massAfter
      rw [z_c0, lt_eq, z_l a0 a1, y_c0_, y_c48_, f1, bd1_s, if_neg (by decide), en, bd1_s]
      refine Ev_bd3 g2 (fun r m2 n2 hr => ?_)
      obtain ⟨-, hm, hM2⟩ := hr
      have hM2' : MR n2 v' sv tv' := hM2
      rw [m_stored hM2' hI', bd1_s, y_i, lt_eq]
      obtain ⟨s1, s2, s3⟩ := SM.of hm
      obtain ⟨n3, e3, h3⟩ := m_endTrial (mM := m2) hM2' ht
      rw [e3, bd1_s]
      have h66 : m2 6 0 = zI c := (congrFun s3 0).trans hM.1
      exact Ev_some ⟨s1, fun _ => rfl, s2, h66, sv, tv', h3, hHM⟩
  · rw [if_neg c1] at e1 f1
    refine ⟨2, 1, 0, Or.inr ⟨rfl, rfl⟩, ?_, ?_⟩
    · unfold f_X8_massAfter
      rw [z_c0, z_c48, e1, bd1_s, nAq_0, bd1_s, if_neg (by decide)]
      exact Ev_some ⟨rfl, fun q => absurd q (by decide)⟩
    · unfold f_X9_massAfter
      rw [z_c0, lt_eq, z_l a0 a1, y_c0_, y_c48_, f1, bd1_s, if_pos rfl]
      exact m_fail (cd := 1) (by decide) hM (fun _ => zI 0)
end
