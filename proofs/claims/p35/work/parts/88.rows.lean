/-! what the wrappers of the law answer: a plant in the law's words -/
def LQ (mP : Mem) (nP : MemL) (mS mB mO mR mA : Mem) (nA : MemL) (mH : Mem) (hs : Nat → PSt) : Prop := ∃ (v : VI) (c : Int) (H : Int → VI), WF v c H ∧ RW mP nP mS mB mO mR mA nA v ∧ HR c H mH hs
theorem z_ex (x : Int32) : ∃ a : Int, -2147483648 ≤ a ∧ a < 2147483648 ∧ x = zI a := ⟨x.toInt, by have := Int32.le_toInt x; omega, by have := Int32.toInt_lt x; omega, z_of x⟩
/-- there is always a reference that holds the same numbers -/
theorem MS_ex (v : VI) {c : Int} (H : Int → VI) (hc : c ≤ 8) : ∃ (mM : Mem) (nM : MemL), MS v c H mM nM := by
  refine ⟨fun _ _ => zI c, fun k j => if k = 0 then zL (v (j : Int)) else zL (H ((j : Int) / 1888) ((j : Int) % 1888)), rfl, _, _, ⟨fun k k0 k1 => ?_, rfl, rfl⟩, fun k i k0 k1 i0 i1 => ?_⟩
  · show (if (0 : Nat) = 0 then zL (v (((zI k).toNatClampNeg : Nat) : Int)) else _) = zL (v k)
    rw [if_pos rfl, z_nat k0 (by omega), Int.toNat_of_nonneg k0]
  · show (if (1 : Nat) = 0 then _ else zL (H ((((zI (k * 1888 + i)).toNatClampNeg : Nat) : Int) / 1888) ((((zI (k * 1888 + i)).toNatClampNeg : Nat) : Int) % 1888))) = zL (H k i)
    rw [if_neg (by decide), z_nat (by omega) (by omega), Int.toNat_of_nonneg (by omega), show (k * 1888 + i) / 1888 = k by omega, show (k * 1888 + i) % 1888 = i by omega]
section
variable {imT : Mem} {imdP : Mem} {indP : MemL} {imdS : Mem} {imdB : Mem} {imdO : Mem} {imdR : Mem} {imdA : Mem} {indA : MemL} {mP : Mem} {nP : MemL} {mS : Mem} {mB : Mem} {mO : Mem} {mR : Mem} {mA : Mem} {nA : MemL} {mH : Mem} {hs : (Nat → PSt)}
theorem h_addSilo (hI : LQ mP nP mS mB mO mR mA nA mH hs) (w1 w2 w3 : Int32) : Ev (f_L_addSilo w1 w2 w3 imT imdP indP imdS imdB imdO imdR imdA indA mP nP mS mB mO mR mA nA mH hs) (fun o => LQ mP nP o.2.1 mB mO mR mA nA o.2.2.1 o.2.2.2) := by
  obtain ⟨v, c, H, h, R, hH⟩ := hI
  obtain ⟨mM, nM, hM⟩ := MS_ex v H h.2.1.2
  obtain ⟨a, a0, a1, ea⟩ := z_ex w1
  subst ea
  obtain ⟨x, x0, x1, ex⟩ := z_ex w2
  subst ex
  obtain ⟨y, y0, y1, ey⟩ := z_ex w3
  subst ey
  obtain ⟨k, cd, r, v2, c2, H2, h2, hk, e8, -⟩ := p_addSilo (imT := imT) (imdP := imdP) (indP := indP) (imdS := imdS) (imdB := imdB) (imdO := imdO) (imdR := imdR) (imdA := imdA) (indA := indA) (mP := mP) (nP := nP) (mS := mS) (mB := mB) (mO := mO) (mR := mR) (mA := mA) (nA := nA) (mH := mH) (hs := hs) (mM := mM) (nM := nM) h R hH hM a0 a1 x0 x1 y0 y1
  obtain ⟨⟨k0, r0, mS', mH', hs'⟩, e8, q1, -, q3, q4⟩ := e8
  dsimp only at q1 q3 q4
  subst q1
  unfold f_L_addSilo
  rw [e8]
  rcases hk with ⟨rfl, -⟩ | ⟨rfl, -⟩ | ⟨rfl, -⟩
  · exact Ev_some ⟨v2, c2, H2, h2, q3, q4⟩
  · exact Ev_some ⟨v2, c2, H2, h2, q3, q4⟩
  · exact Ev_some ⟨v2, c2, H2, h2, q3, q4⟩
theorem h_setRule (hI : LQ mP nP mS mB mO mR mA nA mH hs) (w1 w2 : Int32) : Ev (f_L_setRule w1 w2 imT imdP indP imdS imdB imdO imdR imdA indA mP nP mS mB mO mR mA nA mH hs) (fun o => LQ mP nP o.2.1 mB mO mR mA nA o.2.2.1 o.2.2.2) := by
  obtain ⟨v, c, H, h, R, hH⟩ := hI
  obtain ⟨mM, nM, hM⟩ := MS_ex v H h.2.1.2
  obtain ⟨a, a0, a1, ea⟩ := z_ex w1
  subst ea
  obtain ⟨x, x0, x1, ex⟩ := z_ex w2
  subst ex
  obtain ⟨k, cd, r, v2, c2, H2, h2, hk, e8, -⟩ := p_setRule (imT := imT) (imdP := imdP) (indP := indP) (imdS := imdS) (imdB := imdB) (imdO := imdO) (imdR := imdR) (imdA := imdA) (indA := indA) (mP := mP) (nP := nP) (mS := mS) (mB := mB) (mO := mO) (mR := mR) (mA := mA) (nA := nA) (mH := mH) (hs := hs) (mM := mM) (nM := nM) h R hH hM a0 a1 x0 x1
  obtain ⟨⟨k0, r0, mS', mH', hs'⟩, e8, q1, -, q3, q4⟩ := e8
  dsimp only at q1 q3 q4
  subst q1
  unfold f_L_setRule
  rw [e8]
  rcases hk with ⟨rfl, -⟩ | ⟨rfl, -⟩ | ⟨rfl, -⟩
  · exact Ev_some ⟨v2, c2, H2, h2, q3, q4⟩
  · exact Ev_some ⟨v2, c2, H2, h2, q3, q4⟩
  · exact Ev_some ⟨v2, c2, H2, h2, q3, q4⟩
theorem h_setStrength (hI : LQ mP nP mS mB mO mR mA nA mH hs) (w1 w2 : Int32) : Ev (f_L_setStrength w1 w2 imT imdP indP imdS imdB imdO imdR imdA indA mP nP mS mB mO mR mA nA mH hs) (fun o => LQ mP nP o.2.1 mB mO mR mA nA o.2.2.1 o.2.2.2) := by
  obtain ⟨v, c, H, h, R, hH⟩ := hI
  obtain ⟨mM, nM, hM⟩ := MS_ex v H h.2.1.2
  obtain ⟨a, a0, a1, ea⟩ := z_ex w1
  subst ea
  obtain ⟨x, x0, x1, ex⟩ := z_ex w2
  subst ex
  obtain ⟨k, cd, r, v2, c2, H2, h2, hk, e8, -⟩ := p_setStrength (imT := imT) (imdP := imdP) (indP := indP) (imdS := imdS) (imdB := imdB) (imdO := imdO) (imdR := imdR) (imdA := imdA) (indA := indA) (mP := mP) (nP := nP) (mS := mS) (mB := mB) (mO := mO) (mR := mR) (mA := mA) (nA := nA) (mH := mH) (hs := hs) (mM := mM) (nM := nM) h R hH hM a0 a1 x0 x1
  obtain ⟨⟨k0, r0, mS', mH', hs'⟩, e8, q1, -, q3, q4⟩ := e8
  dsimp only at q1 q3 q4
  subst q1
  unfold f_L_setStrength
  rw [e8]
  rcases hk with ⟨rfl, -⟩ | ⟨rfl, -⟩ | ⟨rfl, -⟩
  · exact Ev_some ⟨v2, c2, H2, h2, q3, q4⟩
  · exact Ev_some ⟨v2, c2, H2, h2, q3, q4⟩
  · exact Ev_some ⟨v2, c2, H2, h2, q3, q4⟩
theorem h_setTemperature (hI : LQ mP nP mS mB mO mR mA nA mH hs) (w1 w2 : Int32) : Ev (f_L_setTemperature w1 w2 imT imdP indP imdS imdB imdO imdR imdA indA mP nP mS mB mO mR mA nA mH hs) (fun o => LQ o.2.1 nP mS mB mO mR mA nA o.2.2.1 o.2.2.2) := by
  obtain ⟨v, c, H, h, R, hH⟩ := hI
  obtain ⟨mM, nM, hM⟩ := MS_ex v H h.2.1.2
  obtain ⟨a, a0, a1, ea⟩ := z_ex w1
  subst ea
  obtain ⟨x, x0, x1, ex⟩ := z_ex w2
  subst ex
  obtain ⟨k, cd, r, v2, c2, H2, h2, hk, e8, -⟩ := p_setTemperature (imT := imT) (imdP := imdP) (indP := indP) (imdS := imdS) (imdB := imdB) (imdO := imdO) (imdR := imdR) (imdA := imdA) (indA := indA) (mP := mP) (nP := nP) (mS := mS) (mB := mB) (mO := mO) (mR := mR) (mA := mA) (nA := nA) (mH := mH) (hs := hs) (mM := mM) (nM := nM) h R hH hM a0 a1 x0 x1
  obtain ⟨⟨k0, r0, mP', mH', hs'⟩, e8, q1, -, q3, q4⟩ := e8
  dsimp only at q1 q3 q4
  subst q1
  unfold f_L_setTemperature
  rw [e8]
  rcases hk with ⟨rfl, -⟩ | ⟨rfl, -⟩ | ⟨rfl, -⟩
  · exact Ev_some ⟨v2, c2, H2, h2, q3, q4⟩
  · exact Ev_some ⟨v2, c2, H2, h2, q3, q4⟩
  · exact Ev_some ⟨v2, c2, H2, h2, q3, q4⟩
theorem h_set (hI : LQ mP nP mS mB mO mR mA nA mH hs) (w1 w2 : Int32) : Ev (f_L_set w1 w2 imT imdP indP imdS imdB imdO imdR imdA indA mP nP mS mB mO mR mA nA mH hs) (fun o => LQ o.2.1 nP mS mB mO mR mA nA o.2.2.1 o.2.2.2) := by
  obtain ⟨v, c, H, h, R, hH⟩ := hI
  obtain ⟨mM, nM, hM⟩ := MS_ex v H h.2.1.2
  obtain ⟨a, a0, a1, ea⟩ := z_ex w1
  subst ea
  obtain ⟨x, x0, x1, ex⟩ := z_ex w2
  subst ex
  obtain ⟨k, cd, r, v2, c2, H2, h2, hk, e8, -⟩ := p_set (imT := imT) (imdP := imdP) (indP := indP) (imdS := imdS) (imdB := imdB) (imdO := imdO) (imdR := imdR) (imdA := imdA) (indA := indA) (mP := mP) (nP := nP) (mS := mS) (mB := mB) (mO := mO) (mR := mR) (mA := mA) (nA := nA) (mH := mH) (hs := hs) (mM := mM) (nM := nM) h R hH hM a0 a1 x0 x1
  obtain ⟨⟨k0, r0, mP', mH', hs'⟩, e8, q1, -, q3, q4⟩ := e8
  dsimp only at q1 q3 q4
  subst q1
  unfold f_L_set
  rw [e8]
  rcases hk with ⟨rfl, -⟩ | ⟨rfl, -⟩ | ⟨rfl, -⟩
  · exact Ev_some ⟨v2, c2, H2, h2, q3, q4⟩
  · exact Ev_some ⟨v2, c2, H2, h2, q3, q4⟩
  · exact Ev_some ⟨v2, c2, H2, h2, q3, q4⟩
theorem h_move (hI : LQ mP nP mS mB mO mR mA nA mH hs) (w1 w2 : Int32) : Ev (f_L_move w1 w2 imT imdP indP imdS imdB imdO imdR imdA indA mP nP mS mB mO mR mA nA mH hs) (fun o => LQ mP nP o.2.1 mB mO mR mA nA o.2.2.1 o.2.2.2) := by
  obtain ⟨v, c, H, h, R, hH⟩ := hI
  obtain ⟨mM, nM, hM⟩ := MS_ex v H h.2.1.2
  obtain ⟨a, a0, a1, ea⟩ := z_ex w1
  subst ea
  obtain ⟨x, x0, x1, ex⟩ := z_ex w2
  subst ex
  obtain ⟨k, cd, r, v2, c2, H2, h2, hk, e8, -⟩ := p_move (imT := imT) (imdP := imdP) (indP := indP) (imdS := imdS) (imdB := imdB) (imdO := imdO) (imdR := imdR) (imdA := imdA) (indA := indA) (mP := mP) (nP := nP) (mS := mS) (mB := mB) (mO := mO) (mR := mR) (mA := mA) (nA := nA) (mH := mH) (hs := hs) (mM := mM) (nM := nM) h R hH hM a0 a1 x0 x1
  obtain ⟨⟨k0, r0, mS', mH', hs'⟩, e8, q1, -, q3, q4⟩ := e8
  dsimp only at q1 q3 q4
  subst q1
  unfold f_L_move
  rw [e8]
  rcases hk with ⟨rfl, -⟩ | ⟨rfl, -⟩ | ⟨rfl, -⟩ | ⟨rfl, -⟩
  · exact Ev_some ⟨v2, c2, H2, h2, q3, q4⟩
  · exact Ev_some ⟨v2, c2, H2, h2, q3, q4⟩
  · exact Ev_some ⟨v2, c2, H2, h2, q3, q4⟩
  · exact Ev_some ⟨v2, c2, H2, h2, q3, q4⟩
theorem h_pass (hI : LQ mP nP mS mB mO mR mA nA mH hs) (w1 : Int32) : Ev (f_L_pass w1 imT imdP indP imdS imdB imdO imdR imdA indA mP nP mS mB mO mR mA nA mH hs) (fun o => LQ o.2.1 o.2.2.1 o.2.2.2.1 o.2.2.2.2.1 o.2.2.2.2.2.1 o.2.2.2.2.2.2.1 o.2.2.2.2.2.2.2.1 o.2.2.2.2.2.2.2.2.1 o.2.2.2.2.2.2.2.2.2.1 o.2.2.2.2.2.2.2.2.2.2) := by
  obtain ⟨v, c, H, h, R, hH⟩ := hI
  obtain ⟨mM, nM, hM⟩ := MS_ex v H h.2.1.2
  obtain ⟨a, a0, a1, ea⟩ := z_ex w1
  subst ea
  obtain ⟨k, cd, r, v2, c2, H2, h2, hk, e8, -⟩ := p_pass (imT := imT) (imdP := imdP) (indP := indP) (imdS := imdS) (imdB := imdB) (imdO := imdO) (imdR := imdR) (imdA := imdA) (indA := indA) (mP := mP) (nP := nP) (mS := mS) (mB := mB) (mO := mO) (mR := mR) (mA := mA) (nA := nA) (mH := mH) (hs := hs) (mM := mM) (nM := nM) h R hH hM a0 a1
  obtain ⟨⟨k0, r0, mP', nP', mS', mB', mO', mR', mA', nA', mH', hs'⟩, e8, q1, -, q3, q4⟩ := e8
  dsimp only at q1 q3 q4
  subst q1
  unfold f_L_pass
  rw [e8]
  rcases hk with ⟨rfl, -⟩ | ⟨rfl, -⟩ | ⟨rfl, -⟩
  · exact Ev_some ⟨v2, c2, H2, h2, q3, q4⟩
  · exact Ev_some ⟨v2, c2, H2, h2, q3, q4⟩
  · exact Ev_some ⟨v2, c2, H2, h2, q3, q4⟩
theorem h_addBoat (hI : LQ mP nP mS mB mO mR mA nA mH hs) (w1 : Int32) : Ev (f_L_addBoat w1 imT imdP indP imdS imdB imdO imdR imdA indA mP nP mS mB mO mR mA nA mH hs) (fun o => LQ mP nP mS o.2.1 mO mR mA nA o.2.2.1 o.2.2.2) := by
  obtain ⟨v, c, H, h, R, hH⟩ := hI
  obtain ⟨mM, nM, hM⟩ := MS_ex v H h.2.1.2
  obtain ⟨a, a0, a1, ea⟩ := z_ex w1
  subst ea
  obtain ⟨k, cd, r, v2, c2, H2, h2, hk, e8, -⟩ := p_addBoat (imT := imT) (imdP := imdP) (indP := indP) (imdS := imdS) (imdB := imdB) (imdO := imdO) (imdR := imdR) (imdA := imdA) (indA := indA) (mP := mP) (nP := nP) (mS := mS) (mB := mB) (mO := mO) (mR := mR) (mA := mA) (nA := nA) (mH := mH) (hs := hs) (mM := mM) (nM := nM) h R hH hM a0 a1
  obtain ⟨⟨k0, r0, mB', mH', hs'⟩, e8, q1, -, q3, q4⟩ := e8
  dsimp only at q1 q3 q4
  subst q1
  unfold f_L_addBoat
  rw [e8]
  rcases hk with ⟨rfl, -⟩ | ⟨rfl, -⟩ | ⟨rfl, -⟩
  · exact Ev_some ⟨v2, c2, H2, h2, q3, q4⟩
  · exact Ev_some ⟨v2, c2, H2, h2, q3, q4⟩
  · exact Ev_some ⟨v2, c2, H2, h2, q3, q4⟩
theorem h_setCatch (hI : LQ mP nP mS mB mO mR mA nA mH hs) (w1 w2 : Int32) : Ev (f_L_setCatch w1 w2 imT imdP indP imdS imdB imdO imdR imdA indA mP nP mS mB mO mR mA nA mH hs) (fun o => LQ mP nP mS o.2.1 mO mR mA nA o.2.2.1 o.2.2.2) := by
  obtain ⟨v, c, H, h, R, hH⟩ := hI
  obtain ⟨mM, nM, hM⟩ := MS_ex v H h.2.1.2
  obtain ⟨a, a0, a1, ea⟩ := z_ex w1
  subst ea
  obtain ⟨x, x0, x1, ex⟩ := z_ex w2
  subst ex
  obtain ⟨k, cd, r, v2, c2, H2, h2, hk, e8, -⟩ := p_setCatch (imT := imT) (imdP := imdP) (indP := indP) (imdS := imdS) (imdB := imdB) (imdO := imdO) (imdR := imdR) (imdA := imdA) (indA := indA) (mP := mP) (nP := nP) (mS := mS) (mB := mB) (mO := mO) (mR := mR) (mA := mA) (nA := nA) (mH := mH) (hs := hs) (mM := mM) (nM := nM) h R hH hM a0 a1 x0 x1
  obtain ⟨⟨k0, r0, mB', mH', hs'⟩, e8, q1, -, q3, q4⟩ := e8
  dsimp only at q1 q3 q4
  subst q1
  unfold f_L_setCatch
  rw [e8]
  rcases hk with ⟨rfl, -⟩ | ⟨rfl, -⟩ | ⟨rfl, -⟩
  · exact Ev_some ⟨v2, c2, H2, h2, q3, q4⟩
  · exact Ev_some ⟨v2, c2, H2, h2, q3, q4⟩
  · exact Ev_some ⟨v2, c2, H2, h2, q3, q4⟩
theorem h_order (hI : LQ mP nP mS mB mO mR mA nA mH hs) (w1 w2 w3 x4 : Int32) (hu : x4 = 0 ∨ x4 = 1) : Ev (f_L_order w1 w2 w3 x4 imT imdP indP imdS imdB imdO imdR imdA indA mP nP mS mB mO mR mA nA mH hs) (fun o => LQ mP nP mS mB o.2.1 mR mA nA o.2.2.1 o.2.2.2) := by
  obtain ⟨v, c, H, h, R, hH⟩ := hI
  obtain ⟨mM, nM, hM⟩ := MS_ex v H h.2.1.2
  obtain ⟨a, a0, a1, ea⟩ := z_ex w1
  subst ea
  obtain ⟨x, x0, x1, ex⟩ := z_ex w2
  subst ex
  obtain ⟨y, y0, y1, ey⟩ := z_ex w3
  subst ey
  obtain ⟨u, eu, hu9⟩ : ∃ u : Int, x4 = zI u ∧ (u = 0 ∨ u = 1) := by
    rcases hu with rfl | rfl
    · exact ⟨0, rfl, Or.inl rfl⟩
    · exact ⟨1, rfl, Or.inr rfl⟩
  subst eu
  obtain ⟨k, cd, r, v2, c2, H2, h2, hk, e8, -⟩ := p_order (imT := imT) (imdP := imdP) (indP := indP) (imdS := imdS) (imdB := imdB) (imdO := imdO) (imdR := imdR) (imdA := imdA) (indA := indA) (mP := mP) (nP := nP) (mS := mS) (mB := mB) (mO := mO) (mR := mR) (mA := mA) (nA := nA) (mH := mH) (hs := hs) (mM := mM) (nM := nM) h R hH hM a0 a1 x0 x1 y0 y1 hu9
  obtain ⟨⟨k0, r0, mO', mH', hs'⟩, e8, q1, -, q3, q4⟩ := e8
  dsimp only at q1 q3 q4
  subst q1
  unfold f_L_order
  rw [e8]
  rcases hk with ⟨rfl, -⟩ | ⟨rfl, -⟩ | ⟨rfl, -⟩ | ⟨rfl, -⟩
  · exact Ev_some ⟨v2, c2, H2, h2, q3, q4⟩
  · exact Ev_some ⟨v2, c2, H2, h2, q3, q4⟩
  · exact Ev_some ⟨v2, c2, H2, h2, q3, q4⟩
  · exact Ev_some ⟨v2, c2, H2, h2, q3, q4⟩
theorem h_cancel (hI : LQ mP nP mS mB mO mR mA nA mH hs) (w1 : Int32) : Ev (f_L_cancel w1 imT imdP indP imdS imdB imdO imdR imdA indA mP nP mS mB mO mR mA nA mH hs) (fun o => LQ mP nP mS mB o.2.1 mR mA nA o.2.2.1 o.2.2.2) := by
  obtain ⟨v, c, H, h, R, hH⟩ := hI
  obtain ⟨mM, nM, hM⟩ := MS_ex v H h.2.1.2
  obtain ⟨a, a0, a1, ea⟩ := z_ex w1
  subst ea
  obtain ⟨k, cd, r, v2, c2, H2, h2, hk, e8, -⟩ := p_cancel (imT := imT) (imdP := imdP) (indP := indP) (imdS := imdS) (imdB := imdB) (imdO := imdO) (imdR := imdR) (imdA := imdA) (indA := indA) (mP := mP) (nP := nP) (mS := mS) (mB := mB) (mO := mO) (mR := mR) (mA := mA) (nA := nA) (mH := mH) (hs := hs) (mM := mM) (nM := nM) h R hH hM a0 a1
  obtain ⟨⟨k0, r0, mO', mH', hs'⟩, e8, q1, -, q3, q4⟩ := e8
  dsimp only at q1 q3 q4
  subst q1
  unfold f_L_cancel
  rw [e8]
  rcases hk with ⟨rfl, -⟩ | ⟨rfl, -⟩ | ⟨rfl, -⟩
  · exact Ev_some ⟨v2, c2, H2, h2, q3, q4⟩
  · exact Ev_some ⟨v2, c2, H2, h2, q3, q4⟩
  · exact Ev_some ⟨v2, c2, H2, h2, q3, q4⟩
theorem h_pay (hI : LQ mP nP mS mB mO mR mA nA mH hs) (w1 w2 : Int32) : Ev (f_L_pay w1 w2 imT imdP indP imdS imdB imdO imdR imdA indA mP nP mS mB mO mR mA nA mH hs) (fun o => LQ mP o.2.1 mS o.2.2.1 mO mR mA nA o.2.2.2.1 o.2.2.2.2) := by
  obtain ⟨v, c, H, h, R, hH⟩ := hI
  obtain ⟨mM, nM, hM⟩ := MS_ex v H h.2.1.2
  obtain ⟨a, a0, a1, ea⟩ := z_ex w1
  subst ea
  obtain ⟨x, x0, x1, ex⟩ := z_ex w2
  subst ex
  obtain ⟨k, cd, r, v2, c2, H2, h2, hk, e8, -⟩ := p_pay (imT := imT) (imdP := imdP) (indP := indP) (imdS := imdS) (imdB := imdB) (imdO := imdO) (imdR := imdR) (imdA := imdA) (indA := indA) (mP := mP) (nP := nP) (mS := mS) (mB := mB) (mO := mO) (mR := mR) (mA := mA) (nA := nA) (mH := mH) (hs := hs) (mM := mM) (nM := nM) h R hH hM a0 a1 x0 x1
  obtain ⟨⟨k0, r0, nP', mB', mH', hs'⟩, e8, q1, -, q3, q4⟩ := e8
  dsimp only at q1 q3 q4
  subst q1
  unfold f_L_pay
  rw [e8]
  rcases hk with ⟨rfl, -⟩ | ⟨rfl, -⟩ | ⟨rfl, -⟩ | ⟨rfl, -⟩
  · exact Ev_some ⟨v2, c2, H2, h2, q3, q4⟩
  · exact Ev_some ⟨v2, c2, H2, h2, q3, q4⟩
  · exact Ev_some ⟨v2, c2, H2, h2, q3, q4⟩
  · exact Ev_some ⟨v2, c2, H2, h2, q3, q4⟩
theorem h_undo (hI : LQ mP nP mS mB mO mR mA nA mH hs) : Ev (f_L_undo  imT imdP indP imdS imdB imdO imdR imdA indA mP nP mS mB mO mR mA nA mH hs) (fun o => LQ o.2.1 o.2.2.1 o.2.2.2.1 o.2.2.2.2.1 o.2.2.2.2.2.1 o.2.2.2.2.2.2.1 o.2.2.2.2.2.2.2.1 o.2.2.2.2.2.2.2.2.1 o.2.2.2.2.2.2.2.2.2 hs) := by
  obtain ⟨v, c, H, h, R, hH⟩ := hI
  obtain ⟨mM, nM, hM⟩ := MS_ex v H h.2.1.2
  obtain ⟨k, cd, r, v2, c2, H2, h2, hk, e8, -⟩ := p_undo (imT := imT) (imdP := imdP) (indP := indP) (imdS := imdS) (imdB := imdB) (imdO := imdO) (imdR := imdR) (imdA := imdA) (indA := indA) (mP := mP) (nP := nP) (mS := mS) (mB := mB) (mO := mO) (mR := mR) (mA := mA) (nA := nA) (mH := mH) (hs := hs) (mM := mM) (nM := nM) h R hH hM 
  obtain ⟨⟨k0, r0, mP', nP', mS', mB', mO', mR', mA', nA', mH'⟩, e8, q1, -, q3, q4⟩ := e8
  dsimp only at q1 q3 q4
  subst q1
  unfold f_L_undo
  rw [e8]
  rcases hk with ⟨rfl, -⟩ | ⟨rfl, -⟩
  · exact Ev_some ⟨v2, c2, H2, h2, q3, q4⟩
  · exact Ev_some ⟨v2, c2, H2, h2, q3, q4⟩
theorem a_massAfter (hI : LQ mP nP mS mB mO mR mA nA mH hs) (w1 : Int32) : Ev (f_L_massAfter w1 imT imdP indP imdS imdB imdO imdR imdA indA mP nP mS mB mO mR mA nA mH hs) (fun _ => True) := by
  obtain ⟨v, c, H, h, R, hH⟩ := hI
  obtain ⟨mM, nM, hM⟩ := MS_ex v H h.2.1.2
  obtain ⟨a, a0, a1, ea⟩ := z_ex w1
  subst ea
  obtain ⟨k, cd, r, hk, e8, -⟩ := t_massAfter (imT := imT) (imdP := imdP) (indP := indP) (imdS := imdS) (imdB := imdB) (imdO := imdO) (imdR := imdR) (imdA := imdA) (indA := indA) (mP := mP) (nP := nP) (mS := mS) (mB := mB) (mO := mO) (mR := mR) (mA := mA) (nA := nA) (mH := mH) (hs := hs) (mM := mM) (nM := nM) h R hM a0 a1
  obtain ⟨⟨k0, r0, mdP', ndP', mdS', mdB', mdO', mdR', mdA', ndA'⟩, e8, q1, -⟩ := e8
  dsimp only at q1
  subst q1
  unfold f_L_massAfter
  rw [e8]
  rcases hk with ⟨rfl, -⟩ | ⟨rfl, -⟩
  · exact Ev_some trivial
  · exact Ev_some trivial
theorem a_completeIn (hI : LQ mP nP mS mB mO mR mA nA mH hs) (w1 : Int32) : Ev (f_L_completeIn w1 imT imdP indP imdS imdB imdO imdR imdA indA mP nP mS mB mO mR mA nA mH hs) (fun _ => True) := by
  obtain ⟨v, c, H, h, R, hH⟩ := hI
  obtain ⟨mM, nM, hM⟩ := MS_ex v H h.2.1.2
  obtain ⟨a, a0, a1, ea⟩ := z_ex w1
  subst ea
  obtain ⟨k, cd, r, hk, e8, -⟩ := t_completeIn (imT := imT) (imdP := imdP) (indP := indP) (imdS := imdS) (imdB := imdB) (imdO := imdO) (imdR := imdR) (imdA := imdA) (indA := indA) (mP := mP) (nP := nP) (mS := mS) (mB := mB) (mO := mO) (mR := mR) (mA := mA) (nA := nA) (mH := mH) (hs := hs) (mM := mM) (nM := nM) h R hM a0 a1
  obtain ⟨⟨k0, r0, mdP', ndP', mdS', mdB', mdO', mdR', mdA', ndA'⟩, e8, q1, -⟩ := e8
  dsimp only at q1
  subst q1
  unfold f_L_completeIn
  rw [e8]
  rcases hk with ⟨rfl, -⟩ | ⟨rfl, -⟩ | ⟨rfl, -⟩
  · exact Ev_some trivial
  · exact Ev_some trivial
  · exact Ev_some trivial
theorem a_bestRule (hI : LQ mP nP mS mB mO mR mA nA mH hs) (w1 w2 : Int32) : Ev (f_L_bestRule w1 w2 imT imdP indP imdS imdB imdO imdR imdA indA mP nP mS mB mO mR mA nA mH hs) (fun _ => True) := by
  obtain ⟨v, c, H, h, R, hH⟩ := hI
  obtain ⟨mM, nM, hM⟩ := MS_ex v H h.2.1.2
  obtain ⟨a, a0, a1, ea⟩ := z_ex w1
  subst ea
  obtain ⟨x, x0, x1, ex⟩ := z_ex w2
  subst ex
  obtain ⟨k, cd, r, hk, e8, -⟩ := t_bestRule (imT := imT) (imdP := imdP) (indP := indP) (imdS := imdS) (imdB := imdB) (imdO := imdO) (imdR := imdR) (imdA := imdA) (indA := indA) (mP := mP) (nP := nP) (mS := mS) (mB := mB) (mO := mO) (mR := mR) (mA := mA) (nA := nA) (mH := mH) (hs := hs) (mM := mM) (nM := nM) h R hM a0 a1 x0 x1
  obtain ⟨⟨k0, r0, mdP', ndP', mdS', mdB', mdO', mdR', mdA', ndA'⟩, e8, q1, -⟩ := e8
  dsimp only at q1
  subst q1
  unfold f_L_bestRule
  rw [e8]
  rcases hk with ⟨rfl, -⟩ | ⟨rfl, -⟩ | ⟨rfl, -⟩
  · exact Ev_some trivial
  · exact Ev_some trivial
  · exact Ev_some trivial
theorem a_quote (hI : LQ mP nP mS mB mO mR mA nA mH hs) (w1 w2 w3 : Int32) : Ev (f_L_quote w1 w2 w3 imT imdP indP imdS imdB imdO imdR imdA indA mP nP mS mB mO mR mA nA mH hs) (fun _ => True) := by
  obtain ⟨v, c, H, h, R, hH⟩ := hI
  obtain ⟨mM, nM, hM⟩ := MS_ex v H h.2.1.2
  obtain ⟨a, a0, a1, ea⟩ := z_ex w1
  subst ea
  obtain ⟨x, x0, x1, ex⟩ := z_ex w2
  subst ex
  obtain ⟨y, y0, y1, ey⟩ := z_ex w3
  subst ey
  obtain ⟨k, cd, r, r0, hk, e8, -⟩ := q_quote (imT := imT) (imdP := imdP) (indP := indP) (imdS := imdS) (imdB := imdB) (imdO := imdO) (imdR := imdR) (imdA := imdA) (indA := indA) (mP := mP) (nP := nP) (mS := mS) (mB := mB) (mO := mO) (mR := mR) (mA := mA) (nA := nA) (mH := mH) (hs := hs) (mM := mM) (nM := nM) h R hM a0 a1 x0 x1 y0 y1
  unfold f_L_quote
  rw [e8]
  rcases hk with ⟨rfl, -⟩ | ⟨rfl, -⟩ | ⟨rfl, -⟩
  · exact Ev_some trivial
  · exact Ev_some trivial
  · exact Ev_some trivial
theorem a_orderProperty (hI : LQ mP nP mS mB mO mR mA nA mH hs) (w1 w2 : Int32) : Ev (f_L_orderProperty w1 w2 imT imdP indP imdS imdB imdO imdR imdA indA mP nP mS mB mO mR mA nA mH hs) (fun _ => True) := by
  obtain ⟨v, c, H, h, R, hH⟩ := hI
  obtain ⟨mM, nM, hM⟩ := MS_ex v H h.2.1.2
  obtain ⟨a, a0, a1, ea⟩ := z_ex w1
  subst ea
  obtain ⟨x, x0, x1, ex⟩ := z_ex w2
  subst ex
  obtain ⟨k, cd, r, r0, hk, e8, -⟩ := q_orderProperty (imT := imT) (imdP := imdP) (indP := indP) (imdS := imdS) (imdB := imdB) (imdO := imdO) (imdR := imdR) (imdA := imdA) (indA := indA) (mP := mP) (nP := nP) (mS := mS) (mB := mB) (mO := mO) (mR := mR) (mA := mA) (nA := nA) (mH := mH) (hs := hs) (mM := mM) (nM := nM) h R hM a0 a1 x0 x1
  unfold f_L_orderProperty
  rw [e8]
  rcases hk with ⟨rfl, -⟩ | ⟨rfl, -⟩ | ⟨rfl, -⟩
  · exact Ev_some trivial
  · exact Ev_some trivial
  · exact Ev_some trivial
theorem a_receipt (hI : LQ mP nP mS mB mO mR mA nA mH hs) (w1 w2 : Int32) : Ev (f_L_receipt w1 w2 imT imdP indP imdS imdB imdO imdR imdA indA mP nP mS mB mO mR mA nA mH hs) (fun _ => True) := by
  obtain ⟨v, c, H, h, R, hH⟩ := hI
  obtain ⟨mM, nM, hM⟩ := MS_ex v H h.2.1.2
  obtain ⟨a, a0, a1, ea⟩ := z_ex w1
  subst ea
  obtain ⟨x, x0, x1, ex⟩ := z_ex w2
  subst ex
  obtain ⟨k, cd, r, r0, hk, e8, -⟩ := q_receipt (imT := imT) (imdP := imdP) (indP := indP) (imdS := imdS) (imdB := imdB) (imdO := imdO) (imdR := imdR) (imdA := imdA) (indA := indA) (mP := mP) (nP := nP) (mS := mS) (mB := mB) (mO := mO) (mR := mR) (mA := mA) (nA := nA) (mH := mH) (hs := hs) (mM := mM) (nM := nM) h R hM a0 a1 x0 x1
  unfold f_L_receipt
  rw [e8]
  rcases hk with ⟨rfl, -⟩ | ⟨rfl, -⟩ | ⟨rfl, -⟩
  · exact Ev_some trivial
  · exact Ev_some trivial
  · exact Ev_some trivial
end
