/-! execute: a command, done on both sides -/
abbrev PT8 : Type := Mem × MemL × Mem × Mem × Mem × Mem × Mem × MemL
def DOs (o : PT8) (v : VI) : Prop := RW o.1 o.2.1 o.2.2.1 o.2.2.2.1 o.2.2.2.2.1 o.2.2.2.2.2.1 o.2.2.2.2.2.2.1 o.2.2.2.2.2.2.2 v
section
variable {v : VI} {sv tv : Nat → Int64} {imT imdP : Mem} {indP : MemL} {imdS imdB imdO imdR imdA : Mem} {indA : MemL} {mP : Mem} {nP : MemL} {mS mB mO mR mA : Mem} {nA : MemL} {mH : Mem} {hs : Nat → PSt} {mM : Mem} {nM : MemL}
theorem d_catch (h : PK v) (R : RW mP nP mS mB mO mR mA nA v) (hMR : MR nM v sv tv) {a x : Int} (c1 : 0 ≤ a ∧ a < v 1881) (c2 : 0 ≤ x ∧ x ≤ 1000000) : PK (upV v (507 + a) x) ∧
    Ev (bd2 (f_X8_replace (zI a) (zI x) 8 (mB 1)) fun _ g => lt' (wrI mB 1 g) fun m => some (mP, nP, mS, m, mO, mR, mA, nA)) (fun o => DOs o (upV v (507 + a) x)) ∧
    Ev (gi ((507 : Int32) + zI a) 1888 (lt' (wrL nM 0 (vp_updL (nM 0) ((507 : Int32) + zI a).toNatClampNeg ((zI x).toInt64))) fun n => some ((1 : Int32), mM, n))) (fun o => o.1 = zI 1 ∧ (∀ j : Nat, j ≠ 3 → o.2.1 j = mM j) ∧ MR o.2.2 (upV v (507 + a) x) sv tv) := by
  obtain ⟨wr, w0, w1, R⟩ := R
  have hI := h.1.2.2.2.2.1
  have hIB := h.1.2.1
  have hb := hIB.1
  have e3 := s_replaceIn (a := a) R.2.2.1.2.1 (by decide) (zI x) c1.1 (by show a < (8 : Int); omega)
  have o : ∀ j : Int, j ≠ 507 + a → upV v (507 + a) x j = v j := fun j hj => upV_ne _ _ hj
  have hP : PK (upV v (507 + a) x) := by
    obtain ⟨g1, g2, g3, g4, g5, g6, g7, g8, g9, g10, g11⟩ := h.1
    refine ⟨⟨g1.cg fun j _ _ => o j (by omega), ?_, g3.cg (o _ (by omega)) (o _ (by omega)) (fun j _ _ => o j (by omega)), g4.cg (o _ (by omega)) (fun j _ _ => o j (by omega)), ?_, ?_, ?_, ?_, ?_, ?_, ?_⟩, ?_⟩
    · rw [o 1875 (by omega)]
      refine ⟨by rw [o 1881 (by omega)]; exact hb, fun b b0 b1 => ?_⟩
      rw [o (515 + b) (by omega), o (523 + b) (by omega), o 1881 (by omega)]
      refine ⟨?_, (g2.2 b b0 b1).2⟩
      by_cases q : b = a
      · rw [q, upV_same]; exact c2
      · rw [o _ (by omega)]; exact (g2.2 b b0 b1).1
    · rw [o 1875 (by omega)]; exact g5.cg (o _ (by omega)) (o _ (by omega)) (o _ (by omega)) (fun j _ _ => o j (by omega))
    · rw [o 1875 (by omega)]; exact g6
    · rw [o 1885 (by omega)]; exact g7
    · rw [o 1878 (by omega), o 52 (by omega), o 53 (by omega), o 54 (by omega), o 55 (by omega), o 56 (by omega)]; exact g8
    · rw [o 1875 (by omega), o 1876 (by omega)]; exact g9
    · rw [o 1875 (by omega), o 1877 (by omega)]; exact g10
    · rw [o 1875 (by omega), o 1879 (by omega)]; exact g11
    · rw [o 1875 (by omega)]; exact h.2
  refine ⟨hP, ?_, ?_⟩
  · rw [e3, bd2_s]
    refine Ev_lt (Ev_some ⟨wr, w0, by rw [o _ (by omega)]; exact w1, ?_⟩)
    obtain ⟨R1, R2, R3, R4, R5, R6⟩ := R
    refine ⟨R1.cg (fun k a b => o _ (by omega)) (fun k a b _ _ _ _ => o _ (by omega)), R2.cg (o _ (by omega)) (o _ (by omega)) (fun k a b => o _ (by omega)) (RS.zz hI), ?_, R4.cg h.1.2.2.1.1 (o _ (by omega)) (fun k a b => o _ (by omega)), R5.cg (o _ (by omega)) (fun k a b => o _ (by omega)), R6.cg (o _ (by omega)) (fun k a b => o _ (by omega))⟩
    obtain ⟨q1, q2, q3, q4⟩ := R3
    refine ⟨?_, ?_, ?_, ?_⟩
    · show wrI mB 1 (upd (mB 1) (zI a).toNatClampNeg (zI x)) 0 0 = _
      rw [wrI_ne _ _ (by decide), o _ (by omega)]; exact q1
    · show Row 8 (wrI mB 1 (upd (mB 1) (zI a).toNatClampNeg (zI x)) 1) _
      rw [wrI_same]
      refine (q2.wr c1.1 (by omega) (by omega) x).cg fun k b1 b2 => ?_
      show upV v (507 + a) x (507 + k) = upV (fun b => v (507 + b)) a x k
      by_cases q : k = a
      · rw [q, upV_same, upV_same]
      · rw [upV_ne _ _ (by omega), upV_ne _ _ q]
    · show Row 8 (wrI mB 1 (upd (mB 1) (zI a).toNatClampNeg (zI x)) 2) _
      rw [wrI_ne _ _ (by decide)]; exact q3.cg fun k _ _ => o _ (by omega)
    · show Row 8 (wrI mB 1 (upd (mB 1) (zI a).toNatClampNeg (zI x)) 3) _
      rw [wrI_ne _ _ (by decide)]; exact q4.cg fun k _ _ => o _ (by omega)
  · rw [show (507 : Int32) + zI a = zI (507 + a) from z_add 507 a, z_gi (by omega) (by show 507 + a < (1888 : Int); omega) (by decide), z_l (by omega) (by omega)]
    exact Ev_wr hMR (by omega) (by omega) (fun n hn => Ev_some ⟨rfl, fun _ _ => rfl, hn⟩)
theorem d_pay (h : PK v) (R : RW mP nP mS mB mO mR mA nA v) (hMR : MR nM v sv tv) {a x : Int} (c1 : 0 ≤ a ∧ a < v 1881) (c2 : 1 ≤ x ∧ x ≤ 1000000) (c3 : -1000000 ≤ v (515 + a) - x) : PK (payV v a x) ∧
    Ev (bd3 (f_X4_takePayment (zI a) (zI x) mP nP mS mB mO mR mA nA) fun _ n m => some (mP, n, mS, m, mO, mR, mA, nA)) (fun o => DOs o (payV v a x)) ∧
    Ev (bd2 (f_X9_doPay (zI a) (zI x) mM nM) fun _ n => some ((1 : Int32), mM, n)) (fun o => o.1 = zI 1 ∧ (∀ j : Nat, j ≠ 3 → o.2.1 j = mM j) ∧ MR o.2.2 (payV v a x) sv tv) := by
  obtain ⟨wr, w0, w1, R⟩ := R
  have hIB := h.1.2.1
  have hb := hIB.1
  have e1 := s_hasB (a := a) R.2.2.1 hIB (by omega) (by omega)
  rw [if_pos c1] at e1
  have g := hIB.2 a c1.1 (by omega)
  have eo : ∀ j : Int, j ≠ 515 + a → j ≠ 1884 → payV v a x j = v j := fun j p q => by unfold payV; rw [upV_ne _ _ q, upV_ne _ _ p]
  have e15 : payV v a x (515 + a) = v (515 + a) - x := by unfold payV; rw [upV_ne _ _ (by omega), upV_same]
  have hB' : IB (v 1875) (payV v a x) := hIB.one (eo _ (by omega) (by omega)) (fun b b0 b1 => by
    have gb := hIB.2 b b0 b1
    rw [eo (507 + b) (by omega) (by omega), eo (523 + b) (by omega) (by omega)]
    by_cases q : b = a
    · rw [q, e15]; rw [q] at gb; omega
    · rw [eo (515 + b) (by omega) (by omega)]; exact gb)
  have hP : PK (payV v a x) := ⟨h.1.boats (fun j p q r => eo j (by omega) r) hB' (by rw [eo _ (by omega) (by omega)]; exact Int.le_refl _), by rw [eo _ (by omega) (by omega)]; exact h.2⟩
  refine ⟨hP, ?_, ?_⟩
  · have e12 := R.1.2.2.2.2.2.2.2
    have r2 := R.2.2.1.2.2.1 a c1.1 (by omega)
    simp (disch := omega) only [z_add, z_sub, z_neg, y_neg, z_mul, z_div, z_l, y_i, y_add, y_sub, y_mul, y_div, z_lt, z_le, z_eq, y_c1, y_c2, y_c3, y_c4, y_c5, z_gi, bd1_s, bd2_s, mul30, z_ofNat, lt_eq, z_c0, f_X4_takePayment, f_X1_reduceDebt, e1, e12, r2, wrI_same, upd_rd, eq_self, if_true, if_false, lt_eq, iz1, nz1, nz2, nz3, il0, il1, il2, il3, Int.reduceEq, Int.reduceLE, Int.reduceAdd]
    refine Ev_some ⟨wr, w0, by rw [eo _ (by omega) (by omega)]; exact w1, R.boats h.1 (fun j p q r => eo j (by omega) r) ?_ (wrL_ne nP (k := 12) (j := 11) (fun _ => zL (v 1884 + x)) (by decide)) ?_⟩
    · obtain ⟨q1, q2, q3, q4⟩ := R.2.2.1
      unfold RB
      simp (disch := omega) only [wrI_ne, wrI_same]
      refine ⟨by rw [eo _ (by omega) (by omega)]; exact q1, q2.cg fun k _ _ => eo _ (by omega) (by omega), ?_, q4.cg fun k _ _ => eo _ (by omega) (by omega)⟩
      refine (q3.wr c1.1 (by omega) (by omega) (v (515 + a) - x)).cg fun k b1 b2 => ?_
      by_cases q : k = a
      · rw [q, upV_same]; exact e15
      · rw [upV_ne _ _ q]; exact eo _ (by omega) (by omega)
    · show wrL nP 12 (fun _ => zL (v 1884 + x)) 12 0 = zL (payV v a x 1884)
      unfold payV; rw [upV_same, wrL_same]
  · simp (disch := omega) only [f_X9_doPay, z_c515, z_c1884, z_add, z_sub, z_neg, y_neg, z_mul, z_div, z_l, y_i, y_add, y_sub, y_mul, y_div, z_lt, z_le, z_eq, y_c1, y_c2, y_c3, y_c4, y_c5, z_gi, bd1_s, bd2_s, mul30, z_ofNat, hMR.rd]
    refine Ev_bd2 (R := fun r => MR r.2 (payV v a x) sv tv) ?_ (fun r m2 hr => Ev_some ⟨rfl, fun _ _ => rfl, hr⟩)
    refine Ev_wr hMR (by omega) (by omega) (fun n1 hM1 => ?_)
    have r84 : (upV v (515 + a) (v (515 + a) - x)) 1884 = v 1884 := upV_ne _ _ (by omega)
    simp (disch := omega) only [z_add, z_sub, z_neg, y_neg, z_mul, z_div, z_l, y_i, y_add, y_sub, y_mul, y_div, z_lt, z_le, z_eq, y_c1, y_c2, y_c3, y_c4, y_c5, z_gi, bd1_s, bd2_s, mul30, z_ofNat, hM1.rd, r84]
    refine Ev_wr hM1 (by omega) (by omega) (fun n2 hM2 => ?_)
    simp (disch := omega) only [z_add, z_sub, z_neg, y_neg, z_mul, z_div, z_l, y_i, y_add, y_sub, y_mul, y_div, z_lt, z_le, z_eq, y_c1, y_c2, y_c3, y_c4, y_c5, z_gi, bd1_s, bd2_s, mul30, z_ofNat, hM2.rd]
    exact Ev_some hM2
theorem d_move (h : PK v) (R : RW mP nP mS mB mO mR mA nA v) (hMR : MR nM v sv tv) {a x : Int} (c1 : 0 ≤ a ∧ a < v 1880) (c2 : 0 ≤ x ∧ x < v 1880) (c3 : a ≠ x) (c4 : 0 < v (47 + a)) (c5 : v (47 + x) < v (32 + x)) : PK (movV v a x) ∧
    Ev (bd2 (f_X6_moveTop (zI a) (zI x) mS) fun _ m => some (mP, nP, m, mB, mO, mR, mA, nA)) (fun o => DOs o (movV v a x)) ∧
    Ev (bd2 (f_X9_doMove (zI a) (zI x) mM nM) fun _ n => some ((1 : Int32), mM, n)) (fun o => o.1 = zI 1 ∧ (∀ j : Nat, j ≠ 3 → o.2.1 j = mM j) ∧ MR o.2.2 (movV v a x) sv tv) := by
  obtain ⟨wr, w0, w1, R⟩ := R
  have hI := h.1.2.2.2.2.1
  have hb := hI.1
  obtain ⟨hS, eo⟩ := movV_IS hI c1.1 c1.2 c2.1 c2.2 c3 c4 c5
  have hP : PK (movV v a x) := ⟨h.1.silos eo hS, by rw [eo _ (by omega) (by omega) (by omega)]; exact h.2⟩
  refine ⟨hP, ?_, ?_⟩
  · exact Ev_bd2 (s_moveTop R.2.1 hI c1.1 c1.2 c2.1 c2.2 c3 c4 c5) (fun r m hr => Ev_some ⟨wr, w0, by rw [eo _ (by omega) (by omega) (by omega)]; exact w1, R.silos h.1 eo hr.2⟩)
  · exact Ev_bd2 (m_doMove hMR hI c1.1 c1.2 c2.1 c2.2 c3 c4 c5) (fun r m2 hr => Ev_some ⟨rfl, fun _ _ => rfl, hr.2⟩)
theorem d_order (h : PK v) (R : RW mP nP mS mB mO mR mA nA v) (hMR : MR nM v sv tv) {a x y u : Int} (c1 : 0 ≤ a ∧ a < v 1881) (c2 : 1 ≤ x ∧ x ≤ 9999) (c3 : 1 ≤ y ∧ y ≤ 200) (c4 : v 1882 < 200 ∧ openC v < 20) (hu : u = 0 ∨ u = 1) : PK (ordV v a x y u) ∧
    Ev (bd2 (f_X3_place (zI a) (zI x) (zI y) (zI u) mO) fun _ m => some (mP, nP, mS, mB, m, mR, mA, nA)) (fun o => DOs o (ordV v a x y u)) ∧
    Ev (bd2 (f_X9_doOrder (zI a) (zI x) (zI y) (zI u) mM nM) fun _ n => some ((1 : Int32), mM, n)) (fun o => o.1 = zI 1 ∧ (∀ j : Nat, j ≠ 3 → o.2.1 j = mM j) ∧ MR o.2.2 (ordV v a x y u) sv tv) := by
  obtain ⟨wr, w0, w1, R⟩ := R
  have hI := h.1.2.2.2.2.1
  have hIB := h.1.2.1
  have hIO := h.1.2.2.1
  have hb := hIB.1
  have hb2 := hIO.1
  have eo : ∀ j : Int, ¬ (531 ≤ j ∧ j < 1731) → j ≠ 1882 → ordV v a x y u j = v j := fun j p q => ordV_out q (by omega) (by omega) (by omega) (by omega)
  have hIO' := ordV_IO (b := a) (m := x) (p := y) (u := u) hIO c4.1 c4.2 c1 c2 c3 hu
  have hP : PK (ordV v a x y u) := by
    obtain ⟨g1, g2, g3, g4, g5, g6, g7, g8, g9, g10, g11⟩ := h.1
    unfold PK Pl
    rw [eo 1875 (by omega) (by omega), eo 1885 (by omega) (by omega), eo 1878 (by omega) (by omega), eo 52 (by omega) (by omega), eo 53 (by omega) (by omega), eo 54 (by omega) (by omega), eo 55 (by omega) (by omega), eo 56 (by omega) (by omega), eo 1876 (by omega) (by omega), eo 1877 (by omega) (by omega), eo 1879 (by omega) (by omega)]
    exact ⟨⟨g1.cg fun j _ _ => eo j (by omega) (by omega), g2.cg (eo _ (by omega) (by omega)) (fun j _ _ => eo j (by omega) (by omega)), hIO', g4.cg (eo _ (by omega) (by omega)) (fun j _ _ => eo j (by omega) (by omega)), g5.cg (eo _ (by omega) (by omega)) (eo _ (by omega) (by omega)) (eo _ (by omega) (by omega)) (fun j _ _ => eo j (by omega) (by omega)), g6, g7, g8, g9, g10, g11⟩, h.2⟩
  refine ⟨hP, ?_, ?_⟩
  · refine Ev_bd2 (s_place (b := a) (m := x) (p := y) R.2.2.2.1 hIO c4.1 c4.2 hu) (fun r m hr => Ev_some ⟨wr, w0, by rw [eo _ (by omega) (by omega)]; exact w1, ?_⟩)
    obtain ⟨R1, R2, R3, R4, R5, R6⟩ := R
    exact ⟨R1.cg (fun k p q => eo _ (by omega) (by omega)) (fun k p q _ _ _ _ => eo _ (by omega) (by omega)), R2.cg (eo _ (by omega) (by omega)) (eo _ (by omega) (by omega)) (fun k p q => eo _ (by omega) (by omega)) (RS.zz hI), R3.cg (eo _ (by omega) (by omega)) (fun k p q => eo _ (by omega) (by omega)), hr.2, R5.cg (eo _ (by omega) (by omega)) (fun k p q => eo _ (by omega) (by omega)), R6.cg (eo _ (by omega) (by omega)) (fun k p q => eo _ (by omega) (by omega))⟩
  · exact Ev_bd2 (m_doOrder hMR hIO c4.1 ⟨by omega, by omega⟩ ⟨by omega, by omega⟩ ⟨by omega, by omega⟩ hu) (fun r m2 hr => Ev_some ⟨rfl, fun _ _ => rfl, hr.2⟩)
theorem d_pass (h : PK v) (R : RW mP nP mS mB mO mR mA nA v) (hMR : MR nM v sv tv) {a : Int} (c1 : 1 ≤ a ∧ a ≤ 48) (c2 : v 1875 + a ≤ 10000) : ∃ v' : VI, PK v' ∧
    Ev (bd9 (f_X4_letPass (zI a) mP nP mS mB mO mR mA nA) fun _ a1 a2 a3 a4 a5 a6 a7 a8 => some (a1, a2, a3, a4, a5, a6, a7, a8)) (fun o => DOs o v') ∧
    Ev (bd3 (f_X9_doPass (zI a) mM nM) fun _ m n => some ((1 : Int32), m, n)) (fun o => o.1 = zI 1 ∧ (∀ j : Nat, j ≠ 3 → o.2.1 j = mM j) ∧ MR o.2.2 v' sv tv) := by
  obtain ⟨n, rfl⟩ : ∃ n : Nat, a = n := ⟨a.toNat, by omega⟩
  obtain ⟨v', g1, g2, g3, g4, g5, g6⟩ := pass_pair (mM := mM) (n := n) (by omega) h.1 (by omega) R hMR
  refine ⟨v', ⟨g3, by omega⟩, ?_, ?_⟩
  · exact Ev_bd9 g1 (fun a b c d e f g i j hr => Ev_some hr.2)
  · exact Ev_bd3 g2 (fun r m2 n2 hr => Ev_some ⟨rfl, hr.2⟩)
theorem m_done0 {k : Int} {a b : Int32} (hk : k ≠ 0 ∧ 0 ≤ k ∧ k ≤ 3) : f_X9_done_b97 a b (zI k) mM nM = some (zI 0, mM, nM) := by
  unfold f_X9_done_b97
  rw [if_neg (fun r => by rw [show (0 : Int32) = zI 0 from rfl, z_le (by omega) (by omega) (by omega) (by omega)] at r; omega)]
  rfl
/-- what a command does: refused on both sides, or done on both -/
def XC (mT imdP : Mem) (indP : MemL) (imdS imdB imdO imdR imdA : Mem) (indA : MemL) (mP : Mem) (nP : MemL) (mS mB mO mR mA : Mem) (nA : MemL) (mH : Mem) (hs : Nat → PSt) (mM : Mem) (nM : MemL) (v : VI) (sv tv : Nat → Int64) : Prop :=
  ∃ (f : Int) (v' : VI), f_X8_commandFault mT imdP indP imdS imdB imdO imdR imdA indA mP nP mS mB mO mR mA nA mH hs = some (zI f) ∧ (0 ≤ f ∧ f ≤ 3) ∧ PK v' ∧
    (f ≠ 0 → v' = v ∧ f_X9_done mM nM = some (zI 0, mM, nM)) ∧
    (f = 0 → Ev (f_X8_runCommand mT imdP indP imdS imdB imdO imdR imdA indA mP nP mS mB mO mR mA nA mH hs) (fun o => DOs o v') ∧ Ev (f_X9_done mM nM) (fun o => o.1 = zI 1 ∧ (∀ j : Nat, j ≠ 3 → o.2.1 j = mM j) ∧ MR o.2.2 v' sv tv))
theorem xc_h {mT : Mem} {K D M : Int} {x y : VI} (h : PK v) (R : RW mP nP mS mB mO mR mA nA v) (hMR : MR nM v sv tv) (e3 : mT 3 0 = zI 104) (e5 : Row 3 (mT 5) x) (hR : RT mM (104, K, D, M, y)) (hy0 : y 0 = x 0) (hx : ∀ k : Int, -2147483648 ≤ x k ∧ x k < 2147483648) : XC mT imdP indP imdS imdB imdO imdR imdA indA mP nP mS mB mO mR mA nA mH hs mM nM v sv tv := by
  obtain ⟨f, k, a1, a2, a3, a4⟩ := x_pass (imT := mT) (imdP := imdP) (indP := indP) (imdS := imdS) (imdB := imdB) (imdO := imdO) (imdR := imdR) (imdA := imdA) (indA := indA) (mH := mH) (hs := hs) (mM := mM) h R hMR (hx 0).1 (hx 0).2
  obtain ⟨r9, r10, r11, r12, r5⟩ := hR
  dsimp only at r9 r12 r5
  have t0 : mT 5 (0 : Int32).toNatClampNeg = zI (x 0) := e5 0 (by decide) (by decide)
  have t1 : mT 5 (1 : Int32).toNatClampNeg = zI (x 1) := e5 1 (by decide) (by decide)
  have u0 : mM 5 (0 : Int32).toNatClampNeg = zI (x 0) := by rw [← hy0]; exact r5 0 (by decide) (by decide)
  have u1 : mM 5 (1 : Int32).toNatClampNeg = zI (y 1) := r5 1 (by decide) (by decide)
  have cf : f_X8_commandFault mT imdP indP imdS imdB imdO imdR imdA indA mP nP mS mB mO mR mA nA mH hs = some (zI f) := by
    unfold f_X8_commandFault
    rw [lt_eq, lt_eq, t0, t1, e3, if_neg (by decide), if_pos (by decide), a1, bd1_s]
  have ed : f_X9_done mM nM = f_X9_done_b97 (zI (x 0)) (zI (y 1)) (zI k) mM nM := by
    unfold f_X9_done
    rw [lt_eq, lt_eq, u0, u1, r9, if_pos (by decide), a2, bd1_s]
  unfold FK at a3
  by_cases c : f = 0
  · obtain ⟨v', b1, b2, b3⟩ := d_pass (mM := mM) h R hMR (a4 c).1 (a4 c).2
    refine ⟨f, v', cf, a3.1, b1, fun q => absurd c q, fun _ => ⟨?_, ?_⟩⟩
    · unfold f_X8_runCommand
      rw [lt_eq, lt_eq, t0, t1, e3, if_neg (by decide), if_pos (by decide)]
      exact b2
    · rw [ed, show k = 0 by omega]
      unfold f_X9_done_b97
      rw [if_pos (show zI 0 ≤ (0 : Int32) by decide), r9, if_pos (by decide)]
      exact b3
  · exact ⟨f, v, cf, a3.1, h, fun _ => ⟨rfl, by rw [ed]; exact m_done0 (by omega)⟩, fun q => absurd q c⟩
theorem xc_c {mT : Mem} {K D M : Int} {x y : VI} (h : PK v) (R : RW mP nP mS mB mO mR mA nA v) (hMR : MR nM v sv tv) (e3 : mT 3 0 = zI 99) (e5 : Row 3 (mT 5) x) (hR : RT mM (99, K, D, M, y)) (hy0 : y 0 = x 0) (hy1 : y 1 = x 1) (hx : ∀ k : Int, -2147483648 ≤ x k ∧ x k < 2147483648) : XC mT imdP indP imdS imdB imdO imdR imdA indA mP nP mS mB mO mR mA nA mH hs mM nM v sv tv := by
  obtain ⟨f, k, a1, a2, a3, a4⟩ := x_catch (imT := mT) (imdP := imdP) (indP := indP) (imdS := imdS) (imdB := imdB) (imdO := imdO) (imdR := imdR) (imdA := imdA) (indA := indA) (mH := mH) (hs := hs) (mM := mM) h R hMR (hx 0).1 (hx 0).2 (hx 1).1 (hx 1).2
  obtain ⟨r9, r10, r11, r12, r5⟩ := hR
  dsimp only at r9 r12 r5
  have t0 : mT 5 (0 : Int32).toNatClampNeg = zI (x 0) := e5 0 (by decide) (by decide)
  have t1 : mT 5 (1 : Int32).toNatClampNeg = zI (x 1) := e5 1 (by decide) (by decide)
  have u0 : mM 5 (0 : Int32).toNatClampNeg = zI (x 0) := by rw [← hy0]; exact r5 0 (by decide) (by decide)
  have u1 : mM 5 (1 : Int32).toNatClampNeg = zI (x 1) := by rw [← hy1]; exact r5 1 (by decide) (by decide)
  have cf : f_X8_commandFault mT imdP indP imdS imdB imdO imdR imdA indA mP nP mS mB mO mR mA nA mH hs = some (zI f) := by
    unfold f_X8_commandFault
    rw [lt_eq, lt_eq, t0, t1, e3, if_pos (by decide), a1, bd1_s]
  have ed : f_X9_done mM nM = f_X9_done_b97 (zI (x 0)) (zI (x 1)) (zI k) mM nM := by
    unfold f_X9_done
    rw [lt_eq, lt_eq, u0, u1, r9, if_neg (by decide), if_neg (by decide), if_pos (by decide), a2, bd1_s]
  unfold FK at a3
  by_cases c : f = 0
  · obtain ⟨b1, b2, b3⟩ := d_catch (mM := mM) h R hMR (a4 c).1 (a4 c).2
    refine ⟨f, _, cf, a3.1, b1, fun q => absurd c q, fun _ => ⟨?_, ?_⟩⟩
    · unfold f_X8_runCommand
      rw [lt_eq, lt_eq, t0, t1, e3, if_pos (by decide)]
      exact b2
    · rw [ed, show k = 0 by omega]
      unfold f_X9_done_b97
      rw [if_pos (show zI 0 ≤ (0 : Int32) by decide), r9, if_neg (by decide), if_neg (by decide), if_pos (by decide)]
      exact b3
  · exact ⟨f, v, cf, a3.1, h, fun _ => ⟨rfl, by rw [ed]; exact m_done0 (by omega)⟩, fun q => absurd q c⟩
theorem xc_p {mT : Mem} {K D M : Int} {x y : VI} (h : PK v) (R : RW mP nP mS mB mO mR mA nA v) (hMR : MR nM v sv tv) (e3 : mT 3 0 = zI 112) (e5 : Row 3 (mT 5) x) (hR : RT mM (112, K, D, M, y)) (hy0 : y 0 = x 0) (hy1 : y 1 = x 1) (hx : ∀ k : Int, -2147483648 ≤ x k ∧ x k < 2147483648) : XC mT imdP indP imdS imdB imdO imdR imdA indA mP nP mS mB mO mR mA nA mH hs mM nM v sv tv := by
  obtain ⟨f, k, a1, a2, a3, a4⟩ := x_pay (imT := mT) (imdP := imdP) (indP := indP) (imdS := imdS) (imdB := imdB) (imdO := imdO) (imdR := imdR) (imdA := imdA) (indA := indA) (mH := mH) (hs := hs) (mM := mM) h R hMR (hx 0).1 (hx 0).2 (hx 1).1 (hx 1).2
  obtain ⟨r9, r10, r11, r12, r5⟩ := hR
  dsimp only at r9 r12 r5
  have t0 : mT 5 (0 : Int32).toNatClampNeg = zI (x 0) := e5 0 (by decide) (by decide)
  have t1 : mT 5 (1 : Int32).toNatClampNeg = zI (x 1) := e5 1 (by decide) (by decide)
  have u0 : mM 5 (0 : Int32).toNatClampNeg = zI (x 0) := by rw [← hy0]; exact r5 0 (by decide) (by decide)
  have u1 : mM 5 (1 : Int32).toNatClampNeg = zI (x 1) := by rw [← hy1]; exact r5 1 (by decide) (by decide)
  have cf : f_X8_commandFault mT imdP indP imdS imdB imdO imdR imdA indA mP nP mS mB mO mR mA nA mH hs = some (zI f) := by
    unfold f_X8_commandFault
    rw [lt_eq, lt_eq, t0, t1, e3, if_neg (by decide), if_neg (by decide), if_neg (by decide), if_pos (by decide), a1, bd1_s]
  have ed : f_X9_done mM nM = f_X9_done_b97 (zI (x 0)) (zI (x 1)) (zI k) mM nM := by
    unfold f_X9_done
    rw [lt_eq, lt_eq, u0, u1, r9, if_neg (by decide), if_neg (by decide), if_neg (by decide), if_pos (by decide), a2, bd1_s]
  unfold FK at a3
  by_cases c : f = 0
  · obtain ⟨b1, b2, b3⟩ := d_pay (mM := mM) h R hMR (a4 c).1 (a4 c).2.1 (a4 c).2.2
    refine ⟨f, _, cf, a3.1, b1, fun q => absurd c q, fun _ => ⟨?_, ?_⟩⟩
    · unfold f_X8_runCommand
      rw [lt_eq, lt_eq, t0, t1, e3, if_neg (by decide), if_neg (by decide), if_neg (by decide), if_pos (by decide)]
      exact b2
    · rw [ed, show k = 0 by omega]
      unfold f_X9_done_b97
      rw [if_pos (show zI 0 ≤ (0 : Int32) by decide), r9, if_neg (by decide), if_neg (by decide), if_neg (by decide), if_pos (by decide)]
      exact b3
  · exact ⟨f, v, cf, a3.1, h, fun _ => ⟨rfl, by rw [ed]; exact m_done0 (by omega)⟩, fun q => absurd q c⟩
theorem xc_m {mT : Mem} {K D M : Int} {x y : VI} (h : PK v) (R : RW mP nP mS mB mO mR mA nA v) (hMR : MR nM v sv tv) (e3 : mT 3 0 = zI 109) (e5 : Row 3 (mT 5) x) (hR : RT mM (109, K, D, M, y)) (hy0 : y 0 = x 0) (hy1 : y 1 = x 1) (hx : ∀ k : Int, -2147483648 ≤ x k ∧ x k < 2147483648) : XC mT imdP indP imdS imdB imdO imdR imdA indA mP nP mS mB mO mR mA nA mH hs mM nM v sv tv := by
  obtain ⟨f, k, a1, a2, a3, a4⟩ := x_move (imT := mT) (imdP := imdP) (indP := indP) (imdS := imdS) (imdB := imdB) (imdO := imdO) (imdR := imdR) (imdA := imdA) (indA := indA) (mH := mH) (hs := hs) (mM := mM) h R hMR (hx 0).1 (hx 0).2 (hx 1).1 (hx 1).2
  obtain ⟨r9, r10, r11, r12, r5⟩ := hR
  dsimp only at r9 r12 r5
  have t0 : mT 5 (0 : Int32).toNatClampNeg = zI (x 0) := e5 0 (by decide) (by decide)
  have t1 : mT 5 (1 : Int32).toNatClampNeg = zI (x 1) := e5 1 (by decide) (by decide)
  have u0 : mM 5 (0 : Int32).toNatClampNeg = zI (x 0) := by rw [← hy0]; exact r5 0 (by decide) (by decide)
  have u1 : mM 5 (1 : Int32).toNatClampNeg = zI (x 1) := by rw [← hy1]; exact r5 1 (by decide) (by decide)
  have cf : f_X8_commandFault mT imdP indP imdS imdB imdO imdR imdA indA mP nP mS mB mO mR mA nA mH hs = some (zI f) := by
    unfold f_X8_commandFault
    rw [lt_eq, lt_eq, t0, t1, e3, if_neg (by decide), if_neg (by decide), if_neg (by decide), if_neg (by decide), a1, bd1_s]
  have ed : f_X9_done mM nM = f_X9_done_b97 (zI (x 0)) (zI (x 1)) (zI k) mM nM := by
    unfold f_X9_done
    rw [lt_eq, lt_eq, u0, u1, r9, if_neg (by decide), if_neg (by decide), if_neg (by decide), if_neg (by decide), a2, bd1_s]
  unfold FK at a3
  by_cases c : f = 0
  · obtain ⟨b1, b2, b3⟩ := d_move (mM := mM) h R hMR (a4 c).1 (a4 c).2.1 (a4 c).2.2.1 (a4 c).2.2.2.1 (a4 c).2.2.2.2
    refine ⟨f, _, cf, a3.1, b1, fun q => absurd c q, fun _ => ⟨?_, ?_⟩⟩
    · unfold f_X8_runCommand
      rw [lt_eq, lt_eq, t0, t1, e3, if_neg (by decide), if_neg (by decide), if_neg (by decide), if_neg (by decide)]
      exact b2
    · rw [ed, show k = 0 by omega]
      unfold f_X9_done_b97
      rw [if_pos (show zI 0 ≤ (0 : Int32) by decide), r9, if_neg (by decide), if_neg (by decide), if_neg (by decide), if_neg (by decide)]
      exact b3
  · exact ⟨f, v, cf, a3.1, h, fun _ => ⟨rfl, by rw [ed]; exact m_done0 (by omega)⟩, fun q => absurd q c⟩
theorem xc_o {mT : Mem} {K D M : Int} {x y : VI} (h : PK v) (R : RW mP nP mS mB mO mR mA nA v) (hMR : MR nM v sv tv) (hM : M = 0 ∨ M = 1) (e3 : mT 3 0 = zI 111) (e4 : mT 4 0 = zI M) (e5 : Row 3 (mT 5) x) (hR : RT mM (111, K, D, M, y)) (hy0 : y 0 = x 0) (hy1 : y 1 = x 1) (hy2 : y 2 = x 2) (hx : ∀ k : Int, -2147483648 ≤ x k ∧ x k < 2147483648) : XC mT imdP indP imdS imdB imdO imdR imdA indA mP nP mS mB mO mR mA nA mH hs mM nM v sv tv := by
  obtain ⟨f, k, a1, a2, a3, a4⟩ := x_order (imT := mT) (imdP := imdP) (indP := indP) (imdS := imdS) (imdB := imdB) (imdO := imdO) (imdR := imdR) (imdA := imdA) (indA := indA) (mH := mH) (hs := hs) (mM := mM) h R hMR (hx 0).1 (hx 0).2 (hx 1).1 (hx 1).2 (hx 2).1 (hx 2).2
  obtain ⟨r9, r10, r11, r12, r5⟩ := hR
  dsimp only at r9 r12 r5
  have t0 : mT 5 (0 : Int32).toNatClampNeg = zI (x 0) := e5 0 (by decide) (by decide)
  have t1 : mT 5 (1 : Int32).toNatClampNeg = zI (x 1) := e5 1 (by decide) (by decide)
  have t2 : mT 5 (2 : Int32).toNatClampNeg = zI (x 2) := e5 2 (by decide) (by decide)
  have u0 : mM 5 (0 : Int32).toNatClampNeg = zI (x 0) := by rw [← hy0]; exact r5 0 (by decide) (by decide)
  have u1 : mM 5 (1 : Int32).toNatClampNeg = zI (x 1) := by rw [← hy1]; exact r5 1 (by decide) (by decide)
  have u2 : mM 5 (2 : Int32).toNatClampNeg = zI (x 2) := by rw [← hy2]; exact r5 2 (by decide) (by decide)
  have cf : f_X8_commandFault mT imdP indP imdS imdB imdO imdR imdA indA mP nP mS mB mO mR mA nA mH hs = some (zI f) := by
    unfold f_X8_commandFault
    rw [lt_eq, lt_eq, t0, t1, t2, e3, if_neg (by decide), if_neg (by decide), if_pos (by decide), a1, bd1_s]
  have ed : f_X9_done mM nM = f_X9_done_b97 (zI (x 0)) (zI (x 1)) (zI k) mM nM := by
    unfold f_X9_done
    rw [lt_eq, lt_eq, u0, u1, u2, r9, if_neg (by decide), if_pos (by decide), a2, bd1_s]
  unfold FK at a3
  by_cases c : f = 0
  · obtain ⟨b1, b2, b3⟩ := d_order (mM := mM) h R hMR (a4 c).1 (a4 c).2.1 (a4 c).2.2.1 (a4 c).2.2.2 hM
    refine ⟨f, _, cf, a3.1, b1, fun q => absurd c q, fun _ => ⟨?_, ?_⟩⟩
    · unfold f_X8_runCommand
      rw [lt_eq, lt_eq, t0, t1, t2, e3, e4, if_neg (by decide), if_neg (by decide), if_pos (by decide)]
      exact b2
    · rw [ed, show k = 0 by omega]
      unfold f_X9_done_b97
      rw [if_pos (show zI 0 ≤ (0 : Int32) by decide), r9, u2, r12, if_neg (by decide), if_pos (by decide)]
      exact b3
  · exact ⟨f, v, cf, a3.1, h, fun _ => ⟨rfl, by rw [ed]; exact m_done0 (by omega)⟩, fun q => absurd q c⟩
theorem xc_all {mT : Mem} {w K D M : Int} {x y : VI} (h : PK v) (R : RW mP nP mS mB mO mR mA nA v) (hMR : MR nM v sv tv) (hw : w = 104 ∨ w = 111 ∨ w = 99 ∨ w = 112 ∨ w = 109) (hM : M = 0 ∨ M = 1) (e3 : mT 3 0 = zI w) (e4 : mT 4 0 = zI M) (e5 : Row 3 (mT 5) x) (hR : RT mM (w, K, D, M, y)) (hy : ∀ k : Int, 0 ≤ k → k < needT w → y k = x k) : XC mT imdP indP imdS imdB imdO imdR imdA indA mP nP mS mB mO mR mA nA mH hs mM nM v sv tv := by
  have hb : ∀ k : Int, -2147483648 ≤ (zI (x k)).toInt ∧ (zI (x k)).toInt < 2147483648 := fun k => ⟨Int32.le_toInt _, Int32.toInt_lt _⟩
  have e5' : Row 3 (mT 5) (fun k => (zI (x k)).toInt) := fun k k0 k1 => by rw [e5 k k0 k1]; exact z_of _
  have hR' : RT mM (w, K, D, M, fun k => (zI (y k)).toInt) := ⟨hR.1, hR.2.1, hR.2.2.1, hR.2.2.2.1, fun k k0 k1 => by rw [hR.2.2.2.2 k k0 k1]; exact z_of _⟩
  have hy' : ∀ k : Int, 0 ≤ k → k < needT w → (zI (y k)).toInt = (zI (x k)).toInt := fun k k0 k1 => by rw [hy k k0 k1]
  rcases hw with rfl | rfl | rfl | rfl | rfl
  · exact xc_h h R hMR e3 e5' hR' (hy' 0 (by decide) (by decide)) hb
  · exact xc_o h R hMR hM e3 e4 e5' hR' (hy' 0 (by decide) (by decide)) (hy' 1 (by decide) (by decide)) (hy' 2 (by decide) (by decide)) hb
  · exact xc_c h R hMR e3 e5' hR' (hy' 0 (by decide) (by decide)) (hy' 1 (by decide) (by decide)) hb
  · exact xc_p h R hMR e3 e5' hR' (hy' 0 (by decide) (by decide)) (hy' 1 (by decide) (by decide)) hb
  · exact xc_m h R hMR e3 e5' hR' (hy' 0 (by decide) (by decide)) (hy' 1 (by decide) (by decide)) hb
end
