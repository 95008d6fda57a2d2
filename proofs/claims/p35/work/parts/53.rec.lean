/-! receipts -/
def RR (wr : Int) (mR : Mem) (v : VI) : Prop := mR 0 0 = zI wr ∧ 0 ≤ wr ∧ v 1885 = (if wr < 16 then wr else 16) ∧ mR 1 0 = zI (if v 1885 = 0 then 0 else v (1795 + (v 1885 - 1))) ∧ (∀ i : Int, 0 ≤ i → i < v 1885 → mR 2 (zI ((wr - 1 - i) % 16)).toNatClampNeg = zI (v (1731 + (v 1885 - 1 - i))) ∧ mR 3 (zI ((wr - 1 - i) % 16)).toNatClampNeg = zI (v (1747 + (v 1885 - 1 - i))) ∧ mR 4 (zI ((wr - 1 - i) % 16)).toNatClampNeg = zI (v (1763 + (v 1885 - 1 - i))) ∧ mR 5 (zI ((wr - 1 - i) % 16)).toNatClampNeg = zI (v (1779 + (v 1885 - 1 - i))) ∧ mR 6 (zI ((wr - 1 - i) % 16)).toNatClampNeg = zI (v (1795 + (v 1885 - 1 - i))))
theorem RR.kept {wr : Int} {mR : Mem} {v : VI} (h : RR wr mR v) : 0 ≤ v 1885 ∧ v 1885 ≤ 16 := by
  have h2 := h.2.1
  have h3 := h.2.2.1
  rw [h3]; split <;> omega
theorem RR.cg {wr : Int} {mR : Mem} {v v' : VI} (h : RR wr mR v) (e1 : v' 1885 = v 1885) (e2 : ∀ j : Int, 1731 ≤ j → j < 1811 → v' j = v j) : RR wr mR v' := by
  have hk := h.kept
  obtain ⟨h1, h2, h3, h4, h5⟩ := h
  refine ⟨h1, h2, by rw [e1]; exact h3, ?_, fun i q1 q2 => ?_⟩
  · rw [e1]
    by_cases c : v 1885 = 0
    · rw [if_pos c]; rw [if_pos c] at h4; exact h4
    · rw [if_neg c, e2 _ (by omega) (by omega)]; rw [if_neg c] at h4; exact h4
  · rw [e1] at q2
    rw [e1, e2 _ (by omega) (by omega), e2 _ (by omega) (by omega), e2 _ (by omega) (by omega), e2 _ (by omega) (by omega), e2 _ (by omega) (by omega)]
    exact h5 i q1 q2
def hshI (c o m p : Int32) : Int32 := ((c <<< ((5 : Int32) &&& 31)) ||| ((c.toUInt32 >>> ((27 : Int32).toUInt32 &&& Int32.toUInt32 31)).toInt32)) ^^^ (((o * (65537 : Int32)) + (m * (31 : Int32))) + p)
/-- the code of a receipt -/
def codF (v : VI) (o m p : Int) : Int := (hshI (zI (if v 1885 = 0 then 0 else v (1795 + (v 1885 - 1)))) (zI o) (zI m) (zI p)).toInt
/-- five rows moved down by one, up to i -/
def shR (v : VI) (i : Int) : VI := fun j => if (1731 ≤ j ∧ j < 1731 + i) ∨ (1747 ≤ j ∧ j < 1747 + i) ∨ (1763 ≤ j ∧ j < 1763 + i) ∨ (1779 ≤ j ∧ j < 1779 + i) ∨ (1795 ≤ j ∧ j < 1795 + i) then v (j + 1) else v j
theorem shR_out (v : VI) {i j : Int} (h : ¬ ((1731 ≤ j ∧ j < 1731 + i) ∨ (1747 ≤ j ∧ j < 1747 + i) ∨ (1763 ≤ j ∧ j < 1763 + i) ∨ (1779 ≤ j ∧ j < 1779 + i) ∨ (1795 ≤ j ∧ j < 1795 + i))) : shR v i j = v j := if_neg h
def recW (v : VI) (k o m p c : Int) : VI := upV (upV (upV (upV (upV (upV v 1885 (k + 1)) (1731 + k) o) (1747 + k) m) (1763 + k) p) (1779 + k) (v 1875)) (1795 + k) c
def recV (v : VI) (o m p : Int) : VI := if v 1885 = 16 then recW (shR v 15) 15 o m p (codF v o m p) else recW v (v 1885) o m p (codF v o m p)
theorem recV_out {v : VI} (hk : 0 ≤ v 1885 ∧ v 1885 ≤ 16) {o m p j : Int} (h : ¬ (1731 ≤ j ∧ j < 1811) ∧ j ≠ 1885) : recV v o m p j = v j := by
  unfold recV recW
  by_cases c : v 1885 = 16
  · rw [if_pos c]
    simp (disch := omega) only [upV_ne]
    exact shR_out v (by omega)
  · rw [if_neg c]
    simp (disch := omega) only [upV_ne]
theorem s_write {wr : Int} {mR : Mem} {v : VI} (h : RR wr mR v) (hw : wr < 1000000) {o m p t : Int} (ht : t = v 1875) : Ev (f_X5_write (zI o) (zI m) (zI p) (zI t) mR) (fun mR' => RR (wr + 1) mR' (recV v o m p)) := by
  have hk := h.kept
  obtain ⟨h1, h2, h3, h4, h5⟩ := h
  have hmod : wr - wr / 16 * 16 = wr % 16 := by omega
  unfold f_X5_write
  have hc : hshI (zI (if v 1885 = 0 then 0 else v (1795 + (v 1885 - 1)))) (zI o) (zI m) (zI p) = zI (codF v o m p) := (Int32.ofInt_toInt _).symm
  show Ev (lt' (wrI mR 1 (fun _ => hshI (mR 1 0) (zI o) (zI m) (zI p))) _) _
  rw [h4, hc]
  refine Ev_lt ?_
  have e0 : wrI mR 1 (fun _ => zI (codF v o m p)) 0 0 = zI wr := by rw [wrI_ne _ _ (by decide)]; exact h1
  rw [e0]
  simp (disch := omega) only [z_c16, z_div, z_mul, z_sub, hmod, z_c0]
  refine Ev_lt ?_
  simp (disch := omega) only [z_lt]
  rw [if_neg (by omega)]
  simp (disch := omega) only [z_gi]
  refine Ev_lt (Ev_lt (Ev_lt (Ev_lt (Ev_lt (Ev_lt (Ev_some ?_))))))
  have hk' : recV v o m p 1885 = (if wr + 1 < 16 then wr + 1 else 16) := by
    unfold recV recW
    by_cases c : v 1885 = 16
    · rw [if_pos c]; simp (disch := omega) only [upV_ne, upV_same]
      rw [h3] at c
      by_cases d : wr < 16
      · rw [if_pos d] at c; omega
      · rw [if_neg (by omega)]; rfl
    · rw [if_neg c]; simp (disch := omega) only [upV_ne, upV_same]
      rw [h3] at c ⊢
      repeat' split
      all_goals omega
  unfold RR
  simp (disch := omega) only [wrI_ne, wrI_same]
  have hkk : (if wr + 1 < 16 then wr + 1 else 16) = (if v 1885 = 16 then 16 else v 1885 + 1) := by
    rw [h3]
    repeat' split
    all_goals omega
  refine ⟨by rw [h1, z_c1, z_add], by omega, hk', ?_, fun i q1 q2 => ?_⟩
  · rw [hk', hkk]
    unfold recV recW
    by_cases c : v 1885 = 16
    · simp only [if_pos c, Int.reduceEq, ↓reduceIte]
      simp (disch := omega) only [upV_at, upV_ne]
    · have c2 : ¬ v 1885 + 1 = 0 := by omega
      simp only [if_neg c, if_neg c2]
      rw [show 1795 + (v 1885 + 1 - 1) = 1795 + v 1885 by omega, upV_same]
  · rw [hk', hkk] at q2
    rw [hk', hkk, upd_rd _ _ (by omega) (by omega) (by omega) (by omega), upd_rd _ _ (by omega) (by omega) (by omega) (by omega), upd_rd _ _ (by omega) (by omega) (by omega) (by omega), upd_rd _ _ (by omega) (by omega) (by omega) (by omega), upd_rd _ _ (by omega) (by omega) (by omega) (by omega)]
    by_cases ci : i = 0
    · subst ci
      have er : (wr + 1 - 1 - 0) % 16 = wr % 16 := by rw [show wr + 1 - 1 - 0 = wr by omega]
      simp only [if_pos er]
      unfold recV recW
      by_cases c : v 1885 = 16
      · simp only [if_pos c]
        simp (disch := omega) only [upV_at, upV_ne, ht]
        have : shR v 15 1875 = v 1875 := shR_out v (by omega)
        rw [this]
        exact ⟨trivial, trivial, trivial, rfl, trivial⟩
      · simp only [if_neg c]
        simp (disch := omega) only [upV_at, upV_ne, ht]
        exact ⟨trivial, trivial, trivial, trivial, trivial⟩
    · have hi15 : i ≤ 15 := by
        by_cases c : v 1885 = 16
        · rw [if_pos c] at q2; omega
        · rw [if_neg c] at q2; omega
      have er : ¬ (wr + 1 - 1 - i) % 16 = wr % 16 := by omega
      simp only [if_neg er]
      have hold := h5 (i - 1) (by omega) (by
        by_cases c : v 1885 = 16
        · omega
        · rw [if_neg c] at q2; omega)
      rw [show wr - 1 - (i - 1) = wr + 1 - 1 - i by omega, show v 1885 - 1 - (i - 1) = v 1885 - i by omega] at hold
      unfold recV recW
      by_cases c : v 1885 = 16
      · simp only [if_pos c]
        simp (disch := omega) only [upV_ne]
        unfold shR
        rw [if_pos (by omega), if_pos (by omega), if_pos (by omega), if_pos (by omega), if_pos (by omega)]
        rw [c] at hold
        rw [show 1731 + (16 - 1 - i) + 1 = 1731 + (16 - i) by omega, show 1747 + (16 - 1 - i) + 1 = 1747 + (16 - i) by omega, show 1763 + (16 - 1 - i) + 1 = 1763 + (16 - i) by omega, show 1779 + (16 - 1 - i) + 1 = 1779 + (16 - i) by omega, show 1795 + (16 - 1 - i) + 1 = 1795 + (16 - i) by omega]
        exact hold
      · simp only [if_neg c]
        simp (disch := omega) only [upV_ne]
        rw [show v 1885 + 1 - 1 - i = v 1885 - i by omega]
        exact hold
theorem m_rec230 {mM : Mem} {nM : MemL} {sv tv : Nat → Int64} {v : VI} (hM : MR nM v sv tv) {k o m p c : Int} (hk : v 1885 = k) (k0 : 0 ≤ k) (k1 : k < 16) (o0 : -2147483648 ≤ o) (o1 : o < 2147483648) (c0 : -2147483648 ≤ c) (c1 : c < 2147483648) : Ev (f_X9_giveReceipt_b230 (zI o) (zL m) (zL p) (zI c) mM nM) (fun nM' => MR nM' (recW v k o m p c) sv tv) := by
  subst hk
  simp (disch := omega) only [f_X9_giveReceipt_b230, z_c1731, z_c1747, z_c1763, z_c1779, z_c1795, z_c1875, z_c1885, y_c1_, z_add, z_sub, z_neg, y_neg, z_mul, z_div, z_l, y_i, y_add, y_sub, y_mul, y_div, z_lt, z_le, z_eq, y_c1, y_c2, y_c3, y_c4, y_c5, z_gi, bd1_s, bd2_s, mul30, z_ofNat, hM.rd]
  refine Ev_lt (Ev_wr hM (by omega) (by omega) (fun nM hM => ?_))
  simp (disch := omega) only [z_add, z_sub, z_neg, y_neg, z_mul, z_div, z_l, y_i, y_add, y_sub, y_mul, y_div, z_lt, z_le, z_eq, y_c1, y_c2, y_c3, y_c4, y_c5, z_gi, bd1_s, bd2_s, mul30, z_ofNat]
  refine Ev_wr hM (by omega) (by omega) (fun nM hM => ?_)
  try simp (disch := omega) only [z_add, z_sub, z_neg, y_neg, z_mul, z_div, z_l, y_i, y_add, y_sub, y_mul, y_div, z_lt, z_le, z_eq, y_c1, y_c2, y_c3, y_c4, y_c5, z_gi, bd1_s, bd2_s, mul30, z_ofNat]
  refine Ev_wr hM (by omega) (by omega) (fun nM hM => ?_)
  try simp (disch := omega) only [z_add, z_sub, z_neg, y_neg, z_mul, z_div, z_l, y_i, y_add, y_sub, y_mul, y_div, z_lt, z_le, z_eq, y_c1, y_c2, y_c3, y_c4, y_c5, z_gi, bd1_s, bd2_s, mul30, z_ofNat]
  refine Ev_wr hM (by omega) (by omega) (fun nM hM => ?_)
  simp (disch := omega) only [z_add, z_sub, z_neg, y_neg, z_mul, z_div, z_l, y_i, y_add, y_sub, y_mul, y_div, z_lt, z_le, z_eq, y_c1, y_c2, y_c3, y_c4, y_c5, z_gi, bd1_s, bd2_s, mul30, z_ofNat, hM.rd, upV_ne]
  refine Ev_wr hM (by omega) (by omega) (fun nM hM => ?_)
  try simp (disch := omega) only [z_add, z_sub, z_neg, y_neg, z_mul, z_div, z_l, y_i, y_add, y_sub, y_mul, y_div, z_lt, z_le, z_eq, y_c1, y_c2, y_c3, y_c4, y_c5, z_gi, bd1_s, bd2_s, mul30, z_ofNat]
  refine Ev_wr hM (by omega) (by omega) (fun nM hM => Ev_some ?_)
  exact hM
theorem m_rec85 {mM : Mem} {sv tv : Nat → Int64} {v : VI} (h16 : v 1885 = 16) {o m p c : Int} (o0 : -2147483648 ≤ o) (o1 : o < 2147483648) (c0 : -2147483648 ≤ c) (c1 : c < 2147483648) : ∀ (n fu : Nat) (i : Int) (nM : MemL), 0 ≤ i → i + n = 15 → n < fu → MR nM (shR v i) sv tv →
    Ev (f_X9_giveReceipt_L85 (zI o) (zL m) (zL p) (zI c) mM fu (zI i) nM) (fun nM' => MR nM' (recW (shR v 15) 15 o m p c) sv tv) := by
  intro n
  induction n with
  | zero =>
    intro fu i nM hi hn hf hM
    obtain ⟨fu, rfl⟩ : ∃ m, fu = m + 1 := ⟨fu - 1, by omega⟩
    have hr := hM.rd (a := 1885) (by omega) (by omega)
    rw [shR_out v (by omega), h16] at hr
    simp (disch := omega) only [f_X9_giveReceipt_L85, z_c1, z_c15, z_c1731, z_c1747, z_c1763, z_c1779, z_c1795, z_c1885, y_c1_, z_add, z_sub, z_neg, y_neg, z_mul, z_div, z_l, y_i, y_add, y_sub, y_mul, y_div, z_lt, z_le, z_eq, y_c1, y_c2, y_c3, y_c4, y_c5, z_gi, bd1_s, bd2_s, mul30, z_ofNat, hr]
    rw [if_pos (by omega)]
    refine Ev_wr hM (by omega) (by omega) (fun nM hM => ?_)
    have e : i = 15 := by omega
    rw [e] at hM
    refine Ev_mono (m_rec230 hM (k := 15) (by rw [upV_same]; rfl) (by omega) (by omega) o0 o1 c0 c1) (fun nM' hM' => hM'.cg fun j q1 q2 => ?_)
    unfold recW
    simp only [upV]
    repeat' split
    all_goals first | rfl | omega
  | succ n ih =>
    intro fu i nM hi hn hf hM
    obtain ⟨fu, rfl⟩ : ∃ m, fu = m + 1 := ⟨fu - 1, by omega⟩
    simp (disch := omega) only [f_X9_giveReceipt_L85, z_c1, z_c15, z_c1731, z_c1747, z_c1763, z_c1779, z_c1795, z_c1885, y_c1_, z_add, z_sub, z_neg, y_neg, z_mul, z_div, z_l, y_i, y_add, y_sub, y_mul, y_div, z_lt, z_le, z_eq, y_c1, y_c2, y_c3, y_c4, y_c5, z_gi, bd1_s, bd2_s, mul30, z_ofNat, hM.rd, Int.add_assoc]
    rw [if_neg (by omega)]
    refine Ev_wr hM (by omega) (by omega) (fun nM hM => ?_)
    simp (disch := omega) only [z_gi, hM.rd, upV_ne]
    refine Ev_wr hM (by omega) (by omega) (fun nM hM => ?_)
    simp (disch := omega) only [z_gi, hM.rd, upV_ne]
    refine Ev_wr hM (by omega) (by omega) (fun nM hM => ?_)
    simp (disch := omega) only [z_gi, hM.rd, upV_ne]
    refine Ev_wr hM (by omega) (by omega) (fun nM hM => ?_)
    simp (disch := omega) only [z_gi, hM.rd, upV_ne]
    refine Ev_wr hM (by omega) (by omega) (fun nM hM => ?_)
    simp only [lt_eq]
    refine ih fu (i + 1) nM (by omega) (by omega) (by omega) (hM.cg fun j q1 q2 => ?_)
    rw [shR_out v (j := 1731 + (i + 1)) (by omega), shR_out v (j := 1747 + (i + 1)) (by omega), shR_out v (j := 1763 + (i + 1)) (by omega), shR_out v (j := 1779 + (i + 1)) (by omega), shR_out v (j := 1795 + (i + 1)) (by omega)]
    simp only [upV, shR]
    repeat' split
    all_goals first | rfl | omega | exact congrArg v (by omega)
theorem m_receipt {mM : Mem} {nM : MemL} {sv tv : Nat → Int64} {v : VI} (hM : MR nM v sv tv) (hk : 0 ≤ v 1885 ∧ v 1885 ≤ 16) {o m p : Int} (o0 : -2147483648 ≤ o) (o1 : o < 2147483648) : Ev (f_X9_giveReceipt (zI o) (zL m) (zL p) mM nM) (fun nM' => MR nM' (recV v o m p) sv tv) := by
  have hc : hshI (zI (if v 1885 = 0 then 0 else v (1795 + (v 1885 - 1)))) (zI o) (zI m) (zI p) = zI (codF v o m p) := (Int32.ofInt_toInt _).symm
  have hcb : -2147483648 ≤ codF v o m p ∧ codF v o m p < 2147483648 := ⟨Int32.le_toInt _, Int32.toInt_lt _⟩
  have key : Ev (f_X9_giveReceipt_b38 (zI o) (zL m) (zL p) (zI (if v 1885 = 0 then 0 else v (1795 + (v 1885 - 1)))) mM nM) (fun nM' => MR nM' (recV v o m p) sv tv) := by
    unfold f_X9_giveReceipt_b38
    rw [y_i, y_i]
    show Ev (lt' (hshI (zI (if v 1885 = 0 then 0 else v (1795 + (v 1885 - 1)))) (zI o) (zI m) (zI p)) _) _
    rw [hc]
    refine Ev_lt ?_
    simp (disch := omega) only [z_c1885, y_c16_, z_c0, hM.rd, y_c3]
    unfold recV
    by_cases c : v 1885 = 16
    · rw [if_pos c, if_pos c]
      exact m_rec85 c o0 o1 hcb.1 hcb.2 15 fuel 0 nM (by omega) (by omega) (fuel_gt (by omega)) (hM.cg fun j q1 q2 => shR_out v (by omega))
    · rw [if_neg c, if_neg c]
      exact m_rec230 hM rfl hk.1 (by omega) o0 o1 hcb.1 hcb.2
  unfold f_X9_giveReceipt
  simp (disch := omega) only [z_c1885, z_c1795, z_c1, y_c0_, z_c0, hM.rd, y_c3, y_i, z_add, z_sub]
  by_cases c : v 1885 = 0
  · rw [if_pos c] at key ⊢; exact key
  · rw [if_neg c] at key ⊢
    rw [show 1795 + v 1885 - 1 = 1795 + (v 1885 - 1) by omega]
    simp (disch := omega) only [z_gi, hM.rd, y_i]
    exact key
