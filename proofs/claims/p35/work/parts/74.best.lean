/-! bestRule: what melts with one rule -/
section
variable {v : VI} {imT imdP : Mem} {indP : MemL} {imdS imdB imdO imdR imdA : Mem} {indA : MemL} {mP : Mem} {nP : MemL} {mS mB mO mR mA : Mem} {nA : MemL} {mH : Mem} {hs : Nat → PSt} {mM : Mem} {nM : MemL}
theorem melt_with {a q : Int} {n : Nat} {sv tv : Nat → Int64} (h : Pl v) (hT : v 1875 ≤ 10000) (R : RW mP nP mS mB mO mR mA nA v) (hM : MR nM v sv tv) (ht : RowL 1888 tv v) (a0 : 0 ≤ a) (a1 : a < v 1880) (q0 : 0 ≤ q ∧ q ≤ 3) (hn : n ≤ 24) :
    ∃ d : Int, (-1000000000 ≤ d ∧ d ≤ 1000000000) ∧ Ev (f_X8_meltedWith (zI a) (zI q) (zI n) imT imdP indP imdS imdB imdO imdR imdA indA mP nP mS mB mO mR mA nA mH hs) (fun o => o.1 = zI d) ∧
    ∃ m2 n3 m4, f_X9_doPass (zI n) mM (wrL nM 0 (vp_updL (nM 0) (zI (37 + a)).toNatClampNeg (zL q))) = some (m4, m2, n3) ∧ (∀ j : Nat, j ≠ 3 → m2 j = mM j) ∧ n3 0 (zI 1878).toNatClampNeg - n3 2 (zI 1878).toNatClampNeg = zL d ∧ Ev (f_X9_endTrial m2 n3) (fun r => MR r v sv tv) := by
  have hI := h.2.2.2.2.1
  have hb := hI.1
  obtain ⟨⟨d1, d2, d3, d4, d5, d6, d7, d8⟩, ec, hd⟩ := copy_rw (mP := imdP) (nP := indP) (mS := imdS) (mB := imdB) (mO := imdO) (mR := imdR) (mA := imdA) (nA := indA) R
  obtain ⟨wr, w0, w1, Rd⟩ := hd
  have hz := RS.zz hI
  have hup := (RS.up (x := q) Rd.2.1 hz a0 (by omega)).1
  have hPl : Pl (upV v (37 + a) q) := h.up (by omega) (h.1.cg fun j _ _ => upV_ne _ _ (by omega)) ((hI.up a0 (by omega)).1 q0)
  have e75 : upV v (37 + a) q 1875 = v 1875 := upV_ne _ _ (by omega)
  have e78 : upV v (37 + a) q 1878 = v 1878 := upV_ne _ _ (by omega)
  have hRd : RW d1 d2 (wrI d3 3 (upd (d3 3) (zI a).toNatClampNeg (zI q))) d4 d5 d6 d7 d8 (upV v (37 + a) q) := ⟨wr, w0, by rw [e75]; exact w1, Rd.upS h (by omega) hup⟩
  have hM1 := hM.wr (a := 37 + a) (by omega) (by omega) q
  obtain ⟨v', g1, g2, g3, g4, g5, g6⟩ := pass_pair (mM := mM) (n := n) (by omega) hPl (by omega) hRd hM1
  have hI' := g3.2.2.2.2.1
  have bnd : ∀ {u : VI}, Pl u → 0 ≤ u 1878 ∧ u 1878 ≤ 400000000 := fun {u} hu => by
    have hIu := hu.2.2.2.2.1
    have h8 := hu.2.2.2.2.2.2.2.1
    have hT := hu.2.2.2.2.2.1
    have b0 := (hIu.2.2.1 0 (by omega) (by omega)).2.2.2.2.1
    have b1 := (hIu.2.2.1 1 (by omega) (by omega)).2.2.2.2.1
    have b2 := (hIu.2.2.1 2 (by omega) (by omega)).2.2.2.2.1
    have b3 := (hIu.2.2.1 3 (by omega) (by omega)).2.2.2.2.1
    have b4 := (hIu.2.2.1 4 (by omega) (by omega)).2.2.2.2.1
    simp only [Int.reduceAdd] at b0 b1 b2 b3 b4
    omega
  have bv := bnd h
  have bv' := bnd g3
  refine ⟨v' 1878 - v 1878, by omega, ?_, ?_⟩
  · unfold f_X8_meltedWith
    have er := s_replaceIn (a := a) Rd.2.1.2.2.2.1 (by decide) (zI q) a0 (by show a < (5 : Int); omega)
    obtain ⟨⟨r, p1, p2, p3, p4, p5, p6, p7, p8⟩, ep, -, wr', -, -, R'⟩ := g1
    have er' : f_X8_replace (zI a) (zI q) 5 (d3 3) = _ := er
    obtain ⟨wr0, -, -, R0⟩ := R
    have k1 : f_X6_meltedMass p3 = some (zI (meltedF v')) := s_melted R'.2.1 hI'
    rw [ec, bd8_s, er', bd2_s, lt_eq, ep]
    show Ev (bd1 (f_X6_meltedMass p3) _) _
    rw [k1, bd1_s, s_melted R0.2.1 hI, bd1_s, melted_eq g3, melted_eq h, z_sub]
    exact Ev_some rfl
  · obtain ⟨⟨r, m2, n3⟩, ep, -, hm, hM2⟩ := g2
    have hM2' : MR n3 v' sv tv := hM2
    refine ⟨m2, n3, r, ep, hm, ?_, m_endTrial hM2' ht⟩
    rw [hM2'.rd (by omega) (by omega), hM2'.2.2, ht 1878 (by omega) (by omega), y_sub]
end
