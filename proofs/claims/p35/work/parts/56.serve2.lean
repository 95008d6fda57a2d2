/-! a turn, whole -/
/-- what a turn leaves: the state of the order, then the receipt -/
def endV (o : Int) (M P : Int) (v : VI) : VI := if M = 0 then v else recV (if v (931 + o) < v (731 + o) then v else upV v (1531 + o) 1) o M P
theorem recV_cg {v v' : VI} (hk : 0 ≤ v 1885 ∧ v 1885 ≤ 16) (e1 : v' 1885 = v 1885) (e2 : ∀ j : Int, 1731 ≤ j → j < 1811 → v' j = v j) (e3 : v' 1875 = v 1875) {o m p j : Int} (hj : v' j = v j) (hj2 : v' (j + 1) = v (j + 1) ∨ ¬ (1731 ≤ j ∧ j < 1811)) : recV v' o m p j = recV v o m p j := by
  have ec : codF v' o m p = codF v o m p := by
    unfold codF
    rw [e1]
    by_cases c : v 1885 = 0
    · rw [if_pos c, if_pos c]
    · rw [if_neg c, if_neg c, e2 _ (by omega) (by omega)]
  have es : shR v' 15 j = shR v 15 j := by
    unfold shR
    by_cases c : (1731 ≤ j ∧ j < 1731 + 15) ∨ (1747 ≤ j ∧ j < 1747 + 15) ∨ (1763 ≤ j ∧ j < 1763 + 15) ∨ (1779 ≤ j ∧ j < 1779 + 15) ∨ (1795 ≤ j ∧ j < 1795 + 15)
    · rw [if_pos c, if_pos c]
      rcases hj2 with h | h
      · exact h
      · omega
    · rw [if_neg c, if_neg c]; exact hj
  have e75 : shR v' 15 1875 = shR v 15 1875 := by rw [shR_out v' (by omega), shR_out v (by omega)]; exact e3
  unfold recV
  rw [e1, ec]
  by_cases c : v 1885 = 16
  · rw [if_pos c, if_pos c]
    unfold recW
    rw [e75]
    simp only [upV, es]
  · rw [if_neg c, if_neg c]
    unfold recW
    rw [e3]
    simp only [upV, hj]
theorem m_srv229 {T : Int} {v0 : VI} {b o d rem0 M P : Int} {v : VI} {mM : Mem} {nM : MemL} {sv tv : Nat → Int64} (F : Fx T v0 b o d rem0) (hk : 0 ≤ v0 1885 ∧ v0 1885 ≤ 16) (L : Lp T v0 b o d rem0 M P v) (hM : MR nM v sv tv) : Ev (f_X9_serve_b229 (zI o) (zL M) (zL P) mM nM) (fun nM' => MR nM' (endV o M P v) sv tv) := by
  have Fb := F.b
  obtain ⟨F1, F2, F3, F4, F5, F6, F7, F8, F9, F10, F11⟩ := id F
  have hB0 := blocksF_b F5
  have hbv := blocksF_b L.2.1
  obtain ⟨⟨L1, L2, L3, L4, L5, L6, L7⟩, -, LA, M0, P0, MB, PB, MR0, MP⟩ := id L
  have ew : v (731 + o) = v0 (731 + o) := L7 _ (by omega) (by omega) (by omega) (by omega) (by omega) (by omega) (by omega) (by omega) (by omega)
  have e85 : v 1885 = v0 1885 := L7 _ (by omega) (by omega) (by omega) (by omega) (by omega) (by omega) (by omega) (by omega) (by omega)
  have hrm := m_rem2 (mM := mM) hM (o := o) F7.1 (by omega) (by omega) (by rw [ew]; omega)
  have hrb : 0 ≤ remF v o ∧ remF v o ≤ 9999 := by unfold remF; split <;> omega
  have hre : remF v o = 0 ↔ ¬ v (931 + o) < v (731 + o) := by unfold remF; split <;> omega
  have k250 : ∀ (w : VI) (nM : MemL), MR nM w sv tv → (w 1885 = v 1885) → Ev (f_X9_serve_b250 (zI o) (zL M) (zL P) mM nM) (fun nM' => MR nM' (if M = 0 then w else recV w o M P) sv tv) := fun w nM hM ew => by
    simp (disch := omega) only [f_X9_serve_b250, z_c0, y_c0_, z_add, z_sub, z_neg, y_neg, z_mul, z_div, z_l, y_i, y_add, y_sub, y_mul, y_div, z_lt, z_le, z_eq, y_c1, y_c2, y_c3, y_c4, y_c5, z_gi, bd1_s, bd2_s, mul30, z_ofNat]
    by_cases c : M = 0
    · rw [if_pos (by omega), if_pos c]; exact Ev_some hM
    · rw [if_neg (by omega), if_neg c]
      exact Ev_bd1 (m_receipt hM (by rw [ew, e85]; exact hk) (by omega) (by omega)) (fun r hr => Ev_some hr)
  unfold f_X9_serve_b229
  rw [hrm, bd1_s]
  simp (disch := omega) only [z_add, z_sub, z_neg, y_neg, z_mul, z_div, z_l, y_i, y_add, y_sub, y_mul, y_div, z_lt, z_le, z_eq, y_c1, y_c2, y_c3, y_c4, y_c5, z_gi, bd1_s, bd2_s, mul30, z_ofNat, z_c0, y_c0_, z_c1531]
  by_cases c : remF v o = 0
  · have c2 := hre.mp c
    rw [if_pos c, y_c1_]
    refine Ev_wr hM (by omega) (by omega) (fun nM hM => ?_)
    have := k250 _ nM hM (upV_ne _ _ (by omega))
    unfold endV
    rw [if_neg c2]
    have hMne : M ≠ 0 := by omega
    rw [if_neg hMne] at this ⊢
    exact this
  · have c2 : v (931 + o) < v (731 + o) := by omega
    rw [if_neg c]
    have := k250 v nM hM rfl
    unfold endV
    rw [if_pos c2]
    exact this
theorem m_serve {T : Int} {v0 : VI} {b o d rem0 : Int} {mM : Mem} {nM : MemL} {sv tv : Nat → Int64} (F : Fx T v0 b o d rem0) (hk : 0 ≤ v0 1885 ∧ v0 1885 ≤ 16) (hM : MR nM v0 sv tv) : Ev (f_X9_serve (zI o) mM nM) (fun nM' => MR nM' (if v0 3 < v0 (515 + b) ∨ (v0 (1331 + o) = 1 ∧ storedF v0 < rem0) then v0 else endV o (srvS o b rem0 (blocksF v0).toNat 0 0 v0).1 (srvS o b rem0 (blocksF v0).toNat 0 0 v0).2.1 (srvS o b rem0 (blocksF v0).toNat 0 0 v0).2.2) sv tv) := by
  have Fb := F.b
  obtain ⟨F1, F2, F3, F4, F5, F6, F7, F8, F9, F10, F11⟩ := id F
  have hB0 := blocksF_b F5
  have hst := storedF_b F5
  have hdb := (F2.2 b (by omega) (by omega)).2.1
  have hcr := F1.2.2.2.1
  have hwh := (F3.2.2 o F7.1 (by omega)).2.2.1
  have L0 : Lp T v0 b o d rem0 0 0 v0 := ⟨⟨by omega, by omega, by omega, by omega, by omega, fun j _ => by rw [if_pos rfl], fun j _ _ _ _ _ _ _ _ _ => rfl⟩, F5, F4, by omega, by omega, by omega, by omega, by omega, fun _ => rfl⟩
  have key : Ev (f_X9_serve_b61 (zI o) (zI b) mM nM) (fun nM' => MR nM' (endV o (srvS o b rem0 (blocksF v0).toNat 0 0 v0).1 (srvS o b rem0 (blocksF v0).toNat 0 0 v0).2.1 (srvS o b rem0 (blocksF v0).toNat 0 0 v0).2.2) sv tv) := by
    unfold f_X9_serve_b61
    rw [m_oldest hM F5, bd1_s, y_c0_]
    obtain ⟨nM', g1, g2⟩ := m_srv72 (mM := mM) F (blocksF v0).toNat fuel 0 0 v0 nM (by omega) (fuel_gt (by omega)) L0 hM
    rw [g1]
    exact m_srv229 F hk (Lp.fin F _ 0 0 v0 L0) g2
  have hrm := m_remaining (mM := mM) hM F3 F7.1 F7.2
  rw [← F11] at hrm
  have hsto := m_stored (mM := mM) hM F5
  simp (disch := omega) only [f_X9_serve, z_c0, z_c3, z_c515, z_c531, z_c1331, y_c1_, z_add, z_sub, z_neg, y_neg, z_mul, z_div, z_l, y_i, y_add, y_sub, y_mul, y_div, z_lt, z_le, z_eq, y_c1, y_c2, y_c3, y_c4, y_c5, z_gi, bd1_s, bd2_s, mul30, z_ofNat, hM.rd]
  refine Ev_lt ?_
  rw [← F9]
  simp (disch := omega) only [z_add, z_sub, z_neg, y_neg, z_mul, z_div, z_l, y_i, y_add, y_sub, y_mul, y_div, z_lt, z_le, z_eq, y_c1, y_c2, y_c3, y_c4, y_c5, z_gi, bd1_s, bd2_s, mul30, z_ofNat, z_c0, hM.rd]
  by_cases c1 : v0 3 < v0 (515 + b)
  · rw [if_pos c1, if_pos (Or.inl c1)]; exact Ev_some hM
  · rw [if_neg c1]
    by_cases c2 : v0 (1331 + o) = 1
    · rw [if_pos c2, hsto, bd1_s, hrm, bd1_s]
      simp (disch := omega) only [y_c1]
      by_cases c3 : rem0 ≤ storedF v0
      · rw [if_pos c3, if_neg (by omega)]; exact key
      · rw [if_neg c3, if_pos (by omega)]; exact Ev_some hM
    · rw [if_neg c2, if_neg (by omega)]; exact key
/-- the class's rows, all but those of the saved ones -/
def RPl (wr : Int) (mP : Mem) (nP : MemL) (mS mB mO mR mA : Mem) (nA : MemL) (v : VI) : Prop := RPs mP nP v ∧ RS mS v ∧ RB mB v ∧ RO mO v ∧ RR wr mR v ∧ RA mA nA v
theorem s_isSkipped {T : Int} {v0 : VI} {b o d rem0 : Int} {wr : Int} {mP mS mB mO mR mA : Mem} {nP nA : MemL} (F : Fx T v0 b o d rem0) (R : RPl wr mP nP mS mB mO mR mA nA v0) : f_X4_isSkipped (zI o) (zI b) mP nP mS mB mO mR mA nA = some (zI (if v0 3 < v0 (515 + b) ∨ (v0 (1331 + o) = 1 ∧ storedF v0 < rem0) then 1 else 0)) := by
  have Fb := F.b
  obtain ⟨F1, F2, F3, F4, F5, F6, F7, F8, F9, F10, F11⟩ := id F
  obtain ⟨R1, R2, R3, R4, R5, R6⟩ := R
  have hst := storedF_b F5
  have hdb := (F2.2 b (by omega) (by omega)).2.1
  have hcr := F1.2.2.2.1
  have hwh := (F3.2.2 o F7.1 (by omega)).2.2.1
  have s3 := R1.set (k := 3) (by omega) (by omega)
  have hrm := s_remaining R4 F3 F7.1 F7.2
  rw [← F11] at hrm
  unfold f_X4_isSkipped f_X3_isWhole
  rw [s_valueIn (n := 8) R3.2.2.1 (by omega) (by omega) (by omega), bd1_s, s_valueIn (n := 200) R4.2.2.2.2.2.2.1 (by omega) F7.1 (by omega), bd1_s, s_mass R2 F5, hrm]
  simp (disch := omega) only [z_add, z_sub, z_neg, y_neg, z_mul, z_div, z_l, y_i, y_add, y_sub, y_mul, y_div, z_lt, z_le, z_eq, y_c1, y_c2, y_c3, y_c4, y_c5, z_gi, bd1_s, bd2_s, mul30, z_ofNat, lt_eq, z_c3, z_c1, z_c0, s3]
  by_cases c1 : v0 (515 + b) ≤ v0 3
  · rw [if_pos c1]
    by_cases c2 : v0 (1331 + o) = 1
    · simp only [if_pos c2, bd1_s]
      rw [if_neg (by decide)]
      by_cases c3 : rem0 ≤ storedF v0
      · rw [if_pos c3, if_neg (by omega)]
      · rw [if_neg c3, if_pos (by omega)]
    · simp only [if_neg c2, bd1_s]
      rw [if_pos trivial, if_neg (by omega)]
  · rw [if_neg c1, if_pos (by omega)]
def turnV (o : Int) (v : VI) : VI := if v 3 < v (515 + v (531 + o)) ∨ (v (1331 + o) = 1 ∧ storedF v < remF v o) then v else endV o (srvS o (v (531 + o)) (remF v o) (blocksF v).toNat 0 0 v).1 (srvS o (v (531 + o)) (remF v o) (blocksF v).toNat 0 0 v).2.1 (srvS o (v (531 + o)) (remF v o) (blocksF v).toNat 0 0 v).2.2
theorem endV_out {o M P j : Int} {v : VI} (hk : 0 ≤ v 1885 ∧ v 1885 ≤ 16) (o0 : 0 ≤ o) (o1 : o < 200) (h1 : ¬ (1731 ≤ j ∧ j < 1811)) (h2 : j ≠ 1885) (h3 : j ≠ 1531 + o) : endV o M P v j = v j := by
  unfold endV
  by_cases c : M = 0
  · rw [if_pos c]
  · rw [if_neg c]
    have hw : 0 ≤ (if v (931 + o) < v (731 + o) then v else upV v (1531 + o) 1) 1885 ∧ (if v (931 + o) < v (731 + o) then v else upV v (1531 + o) 1) 1885 ≤ 16 := by
      by_cases d : v (931 + o) < v (731 + o)
      · rw [if_pos d]; exact hk
      · rw [if_neg d, upV_ne _ _ (by omega)]; exact hk
    rw [recV_out hw ⟨h1, h2⟩]
    by_cases d : v (931 + o) < v (731 + o)
    · rw [if_pos d]
    · rw [if_neg d, upV_ne _ _ h3]
theorem endV_st {o M P : Int} {v : VI} (hk : 0 ≤ v 1885 ∧ v 1885 ≤ 16) (o0 : 0 ≤ o) (o1 : o < 200) : endV o M P v (1531 + o) = if M = 0 then v (1531 + o) else if v (931 + o) < v (731 + o) then v (1531 + o) else 1 := by
  unfold endV
  by_cases c : M = 0
  · rw [if_pos c, if_pos c]
  · rw [if_neg c, if_neg c]
    have hw : 0 ≤ (if v (931 + o) < v (731 + o) then v else upV v (1531 + o) 1) 1885 ∧ (if v (931 + o) < v (731 + o) then v else upV v (1531 + o) 1) 1885 ≤ 16 := by
      by_cases d : v (931 + o) < v (731 + o)
      · rw [if_pos d]; exact hk
      · rw [if_neg d, upV_ne _ _ (by omega)]; exact hk
    rw [recV_out hw (by omega)]
    by_cases d : v (931 + o) < v (731 + o)
    · rw [if_pos d, if_pos d]
    · rw [if_neg d, if_neg d, upV_same]
theorem cntZ_sub {f g : Int → Int} : ∀ n : Nat, (∀ j : Nat, j < n → g j = 0 → f j = 0) → cntZ g n ≤ cntZ f n
  | 0, _ => Int.le_refl _
  | n + 1, h => by
    have := cntZ_sub n (fun j hj => h j (by omega))
    show cntZ g n + _ ≤ cntZ f n + _
    by_cases z : g n = 0
    · rw [if_pos z, if_pos (h n (by omega) z)]; omega
    · rw [if_neg z]; split <;> omega
theorem recV_kept {v : VI} (hk : 0 ≤ v 1885 ∧ v 1885 ≤ 16) (o m p : Int) : 0 ≤ recV v o m p 1885 ∧ recV v o m p 1885 ≤ 16 := by
  unfold recV recW
  by_cases c : v 1885 = 16
  · rw [if_pos c]; simp (disch := omega) only [upV_ne, upV_same]; omega
  · rw [if_neg c]; simp (disch := omega) only [upV_ne, upV_same]; omega
/-- the plant while deliveries go on -/
def Pn (T : Int) (v : VI) : Prop := IP v ∧ IB T v ∧ IOr v ∧ IA v ∧ IS T v ∧ (0 ≤ v 1875 ∧ v 1875 ≤ 10049) ∧ (0 ≤ v 1885 ∧ v 1885 ≤ 16) ∧ (∀ b : Int, 0 ≤ b → b < 8 → v (523 + b) + 200 * blocksF v ≤ 30000 * T) ∧ (0 ≤ v 1877 ∧ v 1877 + 200 * blocksF v ≤ 30000 * T)
theorem Pn.fx {T : Int} {v : VI} (h : Pn T v) {o : Int} (o0 : 0 ≤ o) (o1 : o < v 1882) (hz : v (1531 + o) = 0) : Fx T v (v (531 + o)) o (bandF v) (remF v o) := ⟨h.1, h.2.1, h.2.2.1, h.2.2.2.1, h.2.2.2.2.1, h.2.2.2.2.2.1, ⟨o0, o1⟩, hz, rfl, rfl, rfl⟩
theorem Lp0 {T : Int} {v0 : VI} {b o d rem0 : Int} (F : Fx T v0 b o d rem0) : Lp T v0 b o d rem0 0 0 v0 := by
  have Fb := F.b
  obtain ⟨F1, F2, F3, F4, F5, F6, F7, F8, F9, F10, F11⟩ := id F
  exact ⟨⟨by omega, by omega, by omega, by omega, by omega, fun j _ => by rw [if_pos rfl], fun j _ _ _ _ _ _ _ _ _ => rfl⟩, F5, F4, by omega, by omega, by omega, by omega, by omega, fun _ => rfl⟩
theorem Pn.end {T : Int} {v0 : VI} {b o d rem0 M P : Int} {v : VI} (h : Pn T v0) (F : Fx T v0 b o d rem0) (L : Lp T v0 b o d rem0 M P v) (hd : v0 (515 + b) ≤ v0 3) : Pn T (endV o M P v) ∧ (∀ j : Int, ¬ (47 ≤ j ∧ j < 52) → ¬ (57 ≤ j ∧ j < 507) → ¬ (1731 ≤ j ∧ j < 1875) → j ≠ 1886 → j ≠ 931 + o → j ≠ 1531 + o → j ≠ 515 + b → j ≠ 523 + b → j ≠ 1877 → j ≠ 1883 → j ≠ 1885 → endV o M P v j = v0 j) := by
  have Fb := F.b
  obtain ⟨F1, F2, F3, F4, F5, F6, F7, F8, F9, F10, F11⟩ := id F
  obtain ⟨⟨L1, L2, L3, L4, L5, L6, L7⟩, LS, LA, M0, P0, MB, PB, MR0, MP⟩ := id L
  obtain ⟨-, -, -, -, -, -, hk, hgb, hdl⟩ := h
  have hB0 := blocksF_b F5
  have hbv := blocksF_b LS
  have hbb := F2.1
  have hoo := F3.1
  have e85 : v 1885 = v0 1885 := L7 _ (by omega) (by omega) (by omega) (by omega) (by omega) (by omega) (by omega) (by omega) (by omega)
  have hkv : 0 ≤ v 1885 ∧ v 1885 ≤ 16 := by rw [e85]; exact hk
  have out : ∀ j : Int, ¬ (1731 ≤ j ∧ j < 1811) → j ≠ 1885 → j ≠ 1531 + o → endV o M P v j = v j := fun j a b c => endV_out hkv F7.1 (by omega) a b c
  have fr : ∀ j : Int, ¬ (47 ≤ j ∧ j < 52) → ¬ (57 ≤ j ∧ j < 507) → ¬ (1731 ≤ j ∧ j < 1875) → j ≠ 1886 → j ≠ 931 + o → j ≠ 1531 + o → j ≠ 515 + b → j ≠ 523 + b → j ≠ 1877 → j ≠ 1883 → j ≠ 1885 → endV o M P v j = v0 j := fun j a1 a2 a3 a4 a5 a6 a7 a8 a9 a10 a11 => by
    rw [out j (by omega) a11 a6]; exact L7 j a1 a2 (by omega) a4 a5 a7 a8 a9 a10
  have hst := endV_st (M := M) (P := P) hkv F7.1 (show o < 200 by omega)
  have e31 : v (1531 + o) = 0 := by rw [L7 _ (by omega) (by omega) (by omega) (by omega) (by omega) (by omega) (by omega) (by omega) (by omega)]; exact F8
  have ew : v (731 + o) = v0 (731 + o) := L7 _ (by omega) (by omega) (by omega) (by omega) (by omega) (by omega) (by omega) (by omega) (by omega)
  have e82 : endV o M P v 1882 = v0 1882 := fr _ (by omega) (by omega) (by omega) (by omega) (by omega) (by omega) (by omega) (by omega) (by omega) (by omega) (by omega)
  have e81 : endV o M P v 1881 = v0 1881 := fr _ (by omega) (by omega) (by omega) (by omega) (by omega) (by omega) (by omega) (by omega) (by omega) (by omega) (by omega)
  have ebl : blocksF (endV o M P v) = blocksF v := blocksF_cg (out 1880 (by omega) (by omega) (by omega)) (by have := LS.1; omega) (fun s a1 a2 => out _ (by omega) (by omega) (by omega))
  have hdb := (F2.2 b (by omega) (by omega)).2.1
  have hcr := F1.2.2.2.1
  refine ⟨⟨F1.cg fun j a1 a2 => fr j (by omega) (by omega) (by omega) (by omega) (by omega) (by omega) (by omega) (by omega) (by omega) (by omega) (by omega), ⟨by rw [e81]; exact hbb, fun q q0 q1 => ?_⟩, ⟨by rw [e82]; exact hoo, ?_, fun q q0 q1 => ?_⟩, LA.cg (out _ (by omega) (by omega) (by omega)) (fun j a1 a2 => out _ (by omega) (by omega) (by omega)), LS.cg (out _ (by omega) (by omega) (by omega)) (out _ (by omega) (by omega) (by omega)) (out _ (by omega) (by omega) (by omega)) (fun j a1 a2 => out _ (by omega) (by omega) (by omega)), ?_, ?_, fun q q0 q1 => ?_, ?_⟩, fr⟩
  · have g := F2.2 q q0 q1
    have gb := hgb q q0 q1
    rw [e81, fr (507 + q) (by omega) (by omega) (by omega) (by omega) (by omega) (by omega) (by omega) (by omega) (by omega) (by omega) (by omega)]
    by_cases c : q = b
    · subst c
      rw [out (515 + q) (by omega) (by omega) (by omega), out (523 + q) (by omega) (by omega) (by omega), L2, L3]
      omega
    · rw [fr (515 + q) (by omega) (by omega) (by omega) (by omega) (by omega) (by omega) (by omega) (by omega) (by omega) (by omega) (by omega), fr (523 + q) (by omega) (by omega) (by omega) (by omega) (by omega) (by omega) (by omega) (by omega) (by omega) (by omega) (by omega)]
      exact g
  · have h20 := F3.2.1
    unfold openC at h20 ⊢
    rw [e82]
    have := cntZ_sub (f := stF v0) (g := stF (endV o M P v)) (v0 1882).toNat (fun j hj hz => by
      show v0 (1531 + j) = 0
      by_cases c : (j : Int) = o
      · rw [c]; exact F8
      · have hz' : endV o M P v (1531 + j) = 0 := hz
        rw [fr (1531 + j) (by omega) (by omega) (by omega) (by omega) (by omega) (by omega) (by omega) (by omega) (by omega) (by omega) (by omega)] at hz'
        exact hz')
    omega
  · have g := F3.2.2 q q0 q1
    rw [e82, e81]
    by_cases c : q = o
    · subst c
      rw [out (931 + q) (by omega) (by omega) (by omega), L1, hst, fr (1131 + q) (by omega) (by omega) (by omega) (by omega) (by omega) (by omega) (by omega) (by omega) (by omega) (by omega) (by omega), fr (1331 + q) (by omega) (by omega) (by omega) (by omega) (by omega) (by omega) (by omega) (by omega) (by omega) (by omega) (by omega), fr (531 + q) (by omega) (by omega) (by omega) (by omega) (by omega) (by omega) (by omega) (by omega) (by omega) (by omega) (by omega), fr (731 + q) (by omega) (by omega) (by omega) (by omega) (by omega) (by omega) (by omega) (by omega) (by omega) (by omega) (by omega), e31, L1, ew]
      have g2 := g.2.2.2.2.2 F7.2
      refine ⟨by omega, g.2.1, g.2.2.1, ?_, fun a => by omega, fun _ => ⟨g2.1, g2.2.1, fun a => ?_⟩⟩
      · repeat' split
        all_goals omega
      · refine ⟨?_, (g2.2.2 F8).2⟩
        by_cases m0 : M = 0
        · omega
        · rw [if_neg m0] at a
          by_cases lt : v0 (931 + q) + M < v0 (731 + q)
          · exact lt
          · rw [if_neg lt] at a; omega
    · rw [fr (931 + q) (by omega) (by omega) (by omega) (by omega) (by omega) (by omega) (by omega) (by omega) (by omega) (by omega) (by omega), fr (1131 + q) (by omega) (by omega) (by omega) (by omega) (by omega) (by omega) (by omega) (by omega) (by omega) (by omega) (by omega), fr (1331 + q) (by omega) (by omega) (by omega) (by omega) (by omega) (by omega) (by omega) (by omega) (by omega) (by omega) (by omega), fr (1531 + q) (by omega) (by omega) (by omega) (by omega) (by omega) (by omega) (by omega) (by omega) (by omega) (by omega) (by omega), fr (531 + q) (by omega) (by omega) (by omega) (by omega) (by omega) (by omega) (by omega) (by omega) (by omega) (by omega) (by omega), fr (731 + q) (by omega) (by omega) (by omega) (by omega) (by omega) (by omega) (by omega) (by omega) (by omega) (by omega) (by omega)]
      exact g
  · rw [fr 1875 (by omega) (by omega) (by omega) (by omega) (by omega) (by omega) (by omega) (by omega) (by omega) (by omega) (by omega)]; exact F6
  · unfold endV
    by_cases c : M = 0
    · rw [if_pos c]; exact hkv
    · rw [if_neg c]
      refine recV_kept ?_ _ _ _
      by_cases e : v (931 + o) < v (731 + o)
      · rw [if_pos e]; exact hkv
      · rw [if_neg e, upV_ne _ _ (by omega)]; exact hkv
  · rw [ebl]
    have gb := hgb q q0 q1
    by_cases c : q = b
    · subst c; rw [out (523 + q) (by omega) (by omega) (by omega), L3]; omega
    · rw [fr (523 + q) (by omega) (by omega) (by omega) (by omega) (by omega) (by omega) (by omega) (by omega) (by omega) (by omega) (by omega)]; omega
  · rw [ebl, out 1877 (by omega) (by omega) (by omega), L4]; omega
