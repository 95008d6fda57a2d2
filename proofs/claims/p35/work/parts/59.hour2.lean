/-! an hour, whole -/
theorem SeqI.sqo {v : VI} {sq : Int → Int} (hI : IOr v) (h : SeqI v (openC v) sq) : SqO sq 0 (openC v) v := by
  refine ⟨fun q q0 q1 => ?_, fun q r q0 qr r1 e => ?_⟩
  · obtain ⟨k, k0, k1, e⟩ := h.1 q q0 q1
    rw [e]; exact ordN_in hI k0 k1
  · have := h.2.1 q r q0 qr r1
    rw [e, bef_self] at this
    omega
theorem IOr.cg {v v' : VI} (h : IOr v) (e1 : v' 1881 = v 1881) (e2 : v' 1882 = v 1882) (e3 : ∀ j : Int, 531 ≤ j → j < 1731 → v' j = v j) : IOr v' := by
  obtain ⟨h1, h2, h3⟩ := h
  refine ⟨by rw [e2]; exact h1, by rw [openC_cg e2 h1 (fun o a b => e3 _ (by omega) (by omega))]; exact h2, fun o a b => ?_⟩
  rw [e1, e2, e3 (931 + o) (by omega) (by omega), e3 (1131 + o) (by omega) (by omega), e3 (1331 + o) (by omega) (by omega), e3 (1531 + o) (by omega) (by omega), e3 (531 + o) (by omega) (by omega), e3 (731 + o) (by omega) (by omega)]
  exact h3 o a b
theorem IB.cg {T : Int} {v v' : VI} (h : IB T v) (e1 : v' 1881 = v 1881) (e3 : ∀ j : Int, 507 ≤ j → j < 531 → v' j = v j) : IB T v' := by
  obtain ⟨h1, h2⟩ := h
  refine ⟨by rw [e1]; exact h1, fun b a1 a2 => ?_⟩
  rw [e1, e3 (507 + b) (by omega) (by omega), e3 (515 + b) (by omega) (by omega), e3 (523 + b) (by omega) (by omega)]
  exact h2 b a1 a2
theorem IS.grow {T : Int} {v : VI} (hI : IS T v) (ht : v 1875 + 1 ≤ 10049) : IS T (upV (growV v (30 * v 1880)) 1875 (v 1875 + 1)) := by
  have hb := hI.1
  have o : ∀ j : Int, ¬ (357 ≤ j ∧ j < 507) → j ≠ 1875 → upV (growV v (30 * v 1880)) 1875 (v 1875 + 1) j = v j := fun j a b => by
    rw [upV_ne _ _ b, growV_out _ (by omega)]
  refine ⟨by rw [o _ (by omega) (by omega)]; exact hb, ?_, fun s q1 q2 => ?_, fun s k q1 q2 q3 q4 => ?_⟩
  · rw [o _ (by omega) (by omega), upV_same]; have := hI.2.1; omega
  · rw [o (32 + s) (by omega) (by omega), o (37 + s) (by omega) (by omega), o (42 + s) (by omega) (by omega), o (47 + s) (by omega) (by omega), o (52 + s) (by omega) (by omega), o 1880 (by omega) (by omega)]
    exact hI.2.2.1 s q1 q2
  · rw [o (47 + s) (by omega) (by omega)] at q4
    have g := hI.blk q1 q2 q3 q4
    have hz := hI.sz q1 q2
    have hs : s < v 1880 := by
      apply Decidable.byContradiction; intro hn
      have := (hI.2.2.1 s q1 q2).2.2.2.2.2 (by omega)
      omega
    rw [o (57 + (30 * s + k)) (by omega) (by omega), o (207 + (30 * s + k)) (by omega) (by omega), o 1887 (by omega) (by omega), upV_same, upV_ne _ _ (by omega)]
    have e : growV v (30 * v 1880) (357 + (30 * s + k)) = v (357 + (30 * s + k)) + 1 := by
      unfold growV
      rw [if_pos]
      have e1 : (357 + (30 * s + k) - 357) / 30 = s := by omega
      have e2 : (357 + (30 * s + k) - 357) % 30 = k := by omega
      rw [e1, e2]; omega
    rw [e]; omega
/-- the deliveries, the reference's -/
theorem m_deliver {T : Int} {mM : Mem} {nM : MemL} {sv tv : Nat → Int64} {v : VI} {sq : Int → Int} (h : Pn T v) (hM : MR nM v sv tv) (hq : SeqI v (openC v) sq) : Ev (f_X9_deliver mM nM) (fun r => (∀ j : Nat, j ≠ 3 → r.1 j = mM j) ∧ MR r.2 (delS sq (openC v).toNat 0 v) sv tv) := by
  have hI := h.2.2.1
  have hb := hI.1
  have h20 := hI.2.1
  have hc := openC_0 v
  unfold f_X9_deliver
  rw [m_openMany hM hI, bd1_s]
  obtain ⟨mM', g1, g2, g3⟩ := m_line7 hM h.2.1 hI h.1.2.2.1 hq (zI (openC v)) (v 1882).toNat fuel 0 mM (by omega) (fuel_gt (by omega)) (fun p p0 p1 p2 => by
    have := (hq.sqo hI).1 p p0 p1
    omega)
  have g1' : f_X9_deliver_L7 (zI (openC v)) nM fuel (0 : Int32) mM = f_X9_deliver_L55 (zI (openC v)) mM' fuel (zI 0) nM := g1
  rw [g1']
  refine Ev_mono (m_del55 h20 g2 (openC v).toNat fuel 0 v nM (by omega) (by omega) (fuel_gt (by omega)) h (hq.sqo hI) hM) (fun r hr => ⟨fun j hj => ?_, hr.2⟩)
  rw [hr.1]; exact g3 j hj
/-- the class's turns and what comes behind them -/
theorem s_hour58 {T : Int} {sq : Int → Int} {e hr : Int} (e20 : e ≤ 20) : ∀ (n fu : Nat) (p wr : Int) (v : VI) (mP mS mB mO mR mA : Mem) (nP nA : MemL), 0 ≤ p → p + n = e → n < fu → Pn T v → hr = hourF v → SqO sq p e v → (∀ q : Int, 0 ≤ q → q < e → mO 9 (zI q).toNatClampNeg = zI (sq q)) → 0 ≤ wr → wr + n < 1000000 → RPl wr mP nP mS mB mO mR mA nA v →
    Ev (f_X4_passHour_L58 (zI hr) (zI e) fu (zI p) mP nP mS mB mO mR mA nA) (fun r => ∃ wr', wr ≤ wr' ∧ wr' ≤ wr + n ∧ RPl wr' r.1 r.2.1 r.2.2.1 r.2.2.2.1 r.2.2.2.2.1 r.2.2.2.2.2.1 r.2.2.2.2.2.2.1 r.2.2.2.2.2.2.2 (upV (growV (expV (delS sq n p v) 0) (30 * delS sq n p v 1880)) 1875 (delS sq n p v 1875 + 1))) := by
  intro n
  induction n with
  | zero =>
    intro fu p wr v mP mS mB mO mR mA nP nA p0 pn hf h hh hs h9 w0 w1 R
    obtain ⟨fu, rfl⟩ : ∃ m, fu = m + 1 := ⟨fu - 1, by omega⟩
    obtain ⟨R1, R2, R3, R4, R5, R6⟩ := R
    obtain ⟨h1, h2, h3, h4, h5, h6, h7, -, -⟩ := h
    have hoo := h3.1
    have oe : ∀ {j : Int}, ¬ (1131 ≤ j ∧ j < 1331) → ¬ (1531 ≤ j ∧ j < 1731) → expV v 0 j = v j := fun a b => expV_out (by omega) (by omega)
    have h5e : IS T (expV v 0) := h5.cg (oe (by omega) (by omega)) (oe (by omega) (by omega)) (oe (by omega) (by omega)) (fun j a1 a2 => oe (by omega) (by omega))
    have R2e : RS mS (expV v 0) := R2.cg (oe (by omega) (by omega)) (oe (by omega) (by omega)) (fun j a1 a2 => oe (by omega) (by omega)) (fun s a1 a2 => by have := h5.sz a1 a2; omega)
    have fin : ∀ j : Int, ¬ (357 ≤ j ∧ j < 507) → j ≠ 1875 → ¬ (1131 ≤ j ∧ j < 1331) → ¬ (1531 ≤ j ∧ j < 1731) → upV (growV (expV v 0) (30 * v 1880)) 1875 (v 1875 + 1) j = v j := fun j a1 a2 a3 a4 => by
      have hb := h5.1
      rw [upV_ne _ _ a2, growV_out _ (by omega), oe a3 a4]
    simp (disch := omega) only [f_X4_passHour_L58, z_c1, z_c6, z_c21, z_add, z_sub, z_neg, y_neg, z_mul, z_div, z_l, y_i, y_add, y_sub, y_mul, y_div, z_lt, z_le, z_eq, y_c1, y_c2, y_c3, y_c4, y_c5, z_gi, bd1_s, bd2_s, mul30, z_ofNat]
    rw [if_pos (by omega)]
    refine Ev_bd1 (s_expire R4 h3) (fun mO1 hO1 => ?_)
    refine Ev_bd1 (s_grow R2e h5e) (fun mS1 hS1 => ?_)
    rw [oe (j := 1880) (by omega) (by omega)] at hS1
    rw [R1.2.2.1, z_add]
    refine Ev_lt (Ev_some ⟨wr, by omega, by omega, ?_, ?_, ?_, ?_, ?_, ?_⟩)
    · obtain ⟨q1, q2, q3, q4, q5, q6, q7, q8⟩ := R1
      show RPs (wrI mP 7 (fun _ => zI (v 1875 + 1))) nP _
      unfold RPs
      simp (disch := omega) only [wrI_ne, wrI_same]
      refine ⟨q1.cg fun k a1 a2 => fin k (by omega) (by omega) (by omega) (by omega), q2.cg fun k a1 a2 => fin _ (by omega) (by omega) (by omega) (by omega), ?_, ?_, ?_, ?_, ?_, ?_⟩
      · show zI (v 1875 + 1) = zI (upV _ 1875 (v 1875 + 1) 1875); rw [upV_same]
      · show _ = zI (upV (growV (expV v 0) (30 * v 1880)) 1875 (v 1875 + 1) 1876); rw [fin _ (by omega) (by omega) (by omega) (by omega)]; exact q4
      · show _ = zI (upV (growV (expV v 0) (30 * v 1880)) 1875 (v 1875 + 1) 1877); rw [fin _ (by omega) (by omega) (by omega) (by omega)]; exact q5
      · show _ = zI (upV (growV (expV v 0) (30 * v 1880)) 1875 (v 1875 + 1) 1879); rw [fin _ (by omega) (by omega) (by omega) (by omega)]; exact q6
      · show _ = zL (upV (growV (expV v 0) (30 * v 1880)) 1875 (v 1875 + 1) 1883); rw [fin _ (by omega) (by omega) (by omega) (by omega)]; exact q7
      · show _ = zL (upV (growV (expV v 0) (30 * v 1880)) 1875 (v 1875 + 1) 1884); rw [fin _ (by omega) (by omega) (by omega) (by omega)]; exact q8
    · exact hS1.cg (upV_ne _ _ (by omega)) (upV_ne _ _ (by omega)) (fun j a1 a2 => upV_ne _ _ (by omega)) (fun s a1 a2 => by rw [growV_out _ (by omega), oe (by omega) (by omega)]; have := h5.sz a1 a2; omega)
    · obtain ⟨q1, q2, q3, q4⟩ := R3
      exact ⟨by show _ = zI (upV (growV (expV v 0) (30 * v 1880)) 1875 (v 1875 + 1) 1881); rw [fin _ (by omega) (by omega) (by omega) (by omega)]; exact q1, q2.cg fun k a1 a2 => fin _ (by omega) (by omega) (by omega) (by omega), q3.cg fun k a1 a2 => fin _ (by omega) (by omega) (by omega) (by omega), q4.cg fun k a1 a2 => fin _ (by omega) (by omega) (by omega) (by omega)⟩
    · have hb := h5.1
      have e82 : expV v 0 1882 = v 1882 := oe (by omega) (by omega)
      refine hO1.1.cg (by rw [e82]; exact hoo) ?_ (fun j a1 a2 => ?_)
      · show upV (growV (expV v 0) (30 * v 1880)) 1875 (v 1875 + 1) 1882 = _
        rw [upV_ne _ _ (by omega), growV_out _ (by omega)]
      · show upV (growV (expV v 0) (30 * v 1880)) 1875 (v 1875 + 1) j = _
        rw [upV_ne _ _ (by omega), growV_out _ (by omega)]
    · exact R5.cg (fin _ (by omega) (by omega) (by omega) (by omega)) (fun j a1 a2 => fin _ (by omega) (by omega) (by omega) (by omega))
    · exact R6.cg (fin _ (by omega) (by omega) (by omega) (by omega)) (fun j a1 a2 => fin _ (by omega) (by omega) (by omega) (by omega))
  | succ n ih =>
    intro fu p wr v mP mS mB mO mR mA nP nA p0 pn hf h hh hs h9 w0 w1 R
    obtain ⟨fu, rfl⟩ : ∃ m, fu = m + 1 := ⟨fu - 1, by omega⟩
    have hp := hs.1 p (Int.le_refl _) (by omega)
    have hx := hs.next h p0 (by omega)
    have ht := (turn_Pn h hp.1 hp.2.1 hp.2.2).2
    have hoo := h.2.2.1.1
    have hh2 : hr = hourF (turnV (sq p) v) := by
      rw [hh]; unfold hourF
      rw [ht 1875 (by omega) (by omega) (by omega) (by omega) (by omega) (by omega) (by omega) (by omega) (by omega) (by omega)]
    have hrb : 0 ≤ hr ∧ hr < 24 := by rw [hh]; unfold hourF; have := h.2.2.2.2.2.1; omega
    have hva : f_X8_valueAt (zI p) 20 (mO 9) = some (zI (sq p)) := by
      have := s_valueIn (n := 20) (row := mO 9) (g := fun q => if q < e then sq q else (mO 9 (zI q).toNatClampNeg).toInt) (fun q q0 q1 => by
        by_cases c : q < e
        · show _ = zI (if q < e then sq q else _)
          rw [if_pos c]; exact h9 q q0 c
        · show _ = zI (if q < e then sq q else _)
          rw [if_neg c]; exact z_of _) (by omega) p0 (by omega)
      rw [this]
      show some (zI (if p < e then sq p else _)) = _
      rw [if_pos (by omega)]
    have hsv := s_serve (mP := mP) (nP := nP) (mS := mS) (mB := mB) (mO := mO) (mR := mR) (mA := mA) (nA := nA) h hp.1 hp.2.1 hp.2.2 (wr := wr) (by omega) R
    have key : Ev (f_X4_passHour_b94 (f_X4_passHour_L58 (zI hr) (zI e) fu) (zI hr) (zI e) (zI p) (zI (bandF v)) (zI (sq p)) mP nP mS mB mO mR mA nA) (fun r => ∃ wr', wr ≤ wr' ∧ wr' ≤ wr + ((n + 1 : Nat) : Int) ∧ RPl wr' r.1 r.2.1 r.2.2.1 r.2.2.2.1 r.2.2.2.2.1 r.2.2.2.2.2.1 r.2.2.2.2.2.2.1 r.2.2.2.2.2.2.2 (upV (growV (expV (delS sq (n + 1) p v) 0) (30 * delS sq (n + 1) p v 1880)) 1875 (delS sq (n + 1) p v 1875 + 1))) := by
      obtain ⟨r, e1, ⟨wr1, a1, a2, a3⟩, a4⟩ := hsv
      unfold f_X4_passHour_b94
      rw [e1, z_c1, z_add]
      refine Ev_mono (ih fu (p + 1) wr1 (turnV (sq p) v) _ _ _ _ _ _ _ _ (by omega) (by omega) (by omega) hx.2 hh2 hx.1 (fun q q0 q1 => by rw [a4]; exact h9 q q0 q1) (by omega) (by omega) a3) (fun r hr => ?_)
      obtain ⟨wr', b1, b2, b3⟩ := hr
      exact ⟨wr', by omega, by omega, b3⟩
    simp (disch := omega) only [f_X4_passHour_L58, f_X4_passHour_b93, z_c0, z_c1, z_c6, z_c21, z_add, z_sub, z_neg, y_neg, z_mul, z_div, z_l, y_i, y_add, y_sub, y_mul, y_div, z_lt, z_le, z_eq, y_c1, y_c2, y_c3, y_c4, y_c5, z_gi, bd1_s, bd2_s, mul30, z_ofNat, hva]
    rw [if_neg (by omega)]
    have eb : bandF v = if 6 ≤ hr ∧ hr ≤ 21 then 1 else 0 := by unfold bandF; rw [← hh]
    by_cases c1 : hr < 6
    · rw [if_pos c1]
      rw [eb, if_neg (by omega)] at key
      exact key
    · rw [if_neg c1]
      by_cases c2 : 21 < hr
      · rw [if_pos c2]
        rw [eb, if_neg (by omega)] at key
        exact key
      · rw [if_neg c2]
        rw [eb, if_pos (by omega)] at key
        exact key
/-- an hour of a plant at rest: one numbers' world behind both sides -/
theorem hour_pair {v : VI} {wr : Int} {mP mS mB mO mR mA : Mem} {nP nA : MemL} {mM : Mem} {nM : MemL} {sv tv : Nat → Int64} (h : Pl v) (w0 : 0 ≤ wr) (w1 : wr < 900000) (R : RPl wr mP nP mS mB mO mR mA nA v) (hM : MR nM v sv tv) :
    ∃ v', Ev (f_X4_passHour mP nP mS mB mO mR mA nA) (fun r => ∃ wr', wr ≤ wr' ∧ wr' ≤ wr + 20 ∧ RPl wr' r.1 r.2.1 r.2.2.1 r.2.2.2.1 r.2.2.2.2.1 r.2.2.2.2.2.1 r.2.2.2.2.2.2.1 r.2.2.2.2.2.2.2 v') ∧ Ev (f_X9_hour mM nM) (fun r => (∀ j : Nat, j ≠ 3 → r.1 j = mM j) ∧ MR r.2 v' sv tv) ∧ (v 1875 < 10048 → Pl v') ∧ v' 1875 = v 1875 + 1 ∧ v' 1882 = v 1882 ∧ v' 1880 = v 1880 ∧ (CW v → CW v') := by
  obtain ⟨h1, h2, h3, h4, h5, h6, h7, h8, h9, h10, h11⟩ := h
  obtain ⟨R1, R2, R3, R4, R5, R6⟩ := R
  have hb := h5.1
  have ht := h5.2.1
  have h5' : IS (v 1875 + 1) v := h5.mono (by omega) (by omega)
  -- melting
  obtain ⟨v1, mS1, nM1, a1, a2, a3, a4, a5, a6, a7, a8, a9, a10⟩ := melt_pair (mM := mM) (T1 := v 1875 + 1) (h := heatF v) (v 1880).toNat fuel fuel 0 v mS nM (by omega) (by omega) (fuel_gt (by omega)) (fuel_gt (by omega)) hM R2 h5' (fun s q0 q1 => by have := h5.2.2.1 s (by omega) q1; omega) h1 rfl
  have hP1 : IP v1 := h1.cg fun j b1 b2 => a6 j (by omega) (by omega) (by omega)
  have hbl1 := blocksF_b a5
  have R1' : RPs mP nP v1 := R1.cg (fun j b1 b2 => a6 j (by omega) (by omega) (by omega)) (fun j b1 b2 b3 _ _ _ => a6 j (by omega) (by omega) b3)
  have e0 := a6 0 (by omega) (by omega) (by omega)
  have e1 := a6 1 (by omega) (by omega) (by omega)
  have e87 := a6 1887 (by omega) (by omega) (by omega)
  -- production
  have hs1 : v1 1887 + 12 ≤ 12 * (v 1875 + 1) := by omega
  obtain ⟨p1, p2, p3, p4, p5⟩ := prodV_IS (v1 1).toNat a5 (by have := hP1.2.1; omega) hP1.1
  have hpr := s_produce (mB := mB) (mO := mO) (mR := mR) (mA := mA) (nA := nA) R1' a4 a5 hs1 hP1.1 hP1.2.1
  have hpm := m_produce (mM := mM) a3 a5 hs1 hP1.1 hP1.2.1
  have hv2 : ∀ j : Int, ¬ (47 ≤ j ∧ j < 57) → ¬ (57 ≤ j ∧ j < 507) → j ≠ 1887 → j ≠ 1876 → j ≠ 1878 → j ≠ 1879 → prodV v1 (v1 1).toNat j = v j := fun j b1 b2 b3 b4 b5 b6 => by
    rw [p3 j (by omega)]; exact a6 j b1 b2 b5
  have hv2m : ∀ j : Int, 52 ≤ j → j < 57 → prodV v1 (v1 1).toNat j = v1 j := fun j b1 b2 => p3 j (by omega)
  have hv2l : prodV v1 (v1 1).toNat 1878 = v1 1878 := p3 1878 (by omega)
  have hcw : CW v → CW (prodV v1 (v1 1).toNat) := fun hc => by
    have hA16 : v1 1886 ≤ 16 := by rw [a6 1886 (by omega) (by omega) (by omega)]; exact h4.1.2
    have h12 := hP1.2.1
    exact CW.prod (v1 1).toNat (hc.melt h4.1 a10 a6) a5 (by omega) hP1.1 hA16
  generalize prodV v1 (v1 1).toNat = v2 at p1 p2 p3 p4 p5 hpr hpm hv2 hv2m hv2l hcw
  have hbl2 := blocksF_b p1
  have o2 : openC v2 = openC v := openC_cg (hv2 1882 (by omega) (by omega) (by omega) (by omega) (by omega) (by omega)) h3.1 (fun o b1 b2 => hv2 _ (by have := h3.1; omega) (by omega) (by have := h3.1; omega) (by have := h3.1; omega) (by have := h3.1; omega) (by have := h3.1; omega))
  have h3v : IOr v2 := by
    refine ⟨by rw [hv2 1882 (by omega) (by omega) (by omega) (by omega) (by omega) (by omega)]; exact h3.1, by rw [o2]; exact h3.2.1, fun o b1 b2 => ?_⟩
    have g := h3.2.2 o b1 b2
    have f : ∀ j : Int, (531 ≤ j ∧ j < 1731) ∨ j = 1881 ∨ j = 1882 → v2 j = v j := fun j hj => hv2 j (by omega) (by omega) (by omega) (by omega) (by omega) (by omega)
    rw [f (931 + o) (by omega), f (1131 + o) (by omega), f (1331 + o) (by omega), f (1531 + o) (by omega), f (531 + o) (by omega), f (731 + o) (by omega), f 1881 (by omega), f 1882 (by omega)]
    exact g
  have h2v : IB (v 1875 + 1) v2 := by
    refine ⟨by rw [hv2 1881 (by omega) (by omega) (by omega) (by omega) (by omega) (by omega)]; exact h2.1, fun q b1 b2 => ?_⟩
    have g := h2.2 q b1 b2
    have f : ∀ j : Int, (507 ≤ j ∧ j < 531) ∨ j = 1881 → v2 j = v j := fun j hj => hv2 j (by omega) (by omega) (by omega) (by omega) (by omega) (by omega)
    rw [f (507 + q) (by omega), f (515 + q) (by omega), f (523 + q) (by omega), f 1881 (by omega)]
    omega
  have h4v : IA v2 := h4.cg (hv2 1886 (by omega) (by omega) (by omega) (by omega) (by omega) (by omega)) (fun j b1 b2 => hv2 j (by omega) (by omega) (by omega) (by omega) (by omega) (by omega))
  have hPn : Pn (v 1875 + 1) v2 := by
    refine ⟨h1.cg fun j b1 b2 => hv2 j (by omega) (by omega) (by omega) (by omega) (by omega) (by omega), h2v, h3v, h4v, p1, ?_, ?_, fun q b1 b2 => ?_, ?_⟩
    · rw [hv2 1875 (by omega) (by omega) (by omega) (by omega) (by omega) (by omega)]; omega
    · rw [hv2 1885 (by omega) (by omega) (by omega) (by omega) (by omega) (by omega)]; exact h7
    · rw [hv2 (523 + q) (by omega) (by omega) (by omega) (by omega) (by omega) (by omega)]
      have := h2.2 q b1 b2
      omega
    · rw [hv2 1877 (by omega) (by omega) (by omega) (by omega) (by omega) (by omega)]; omega
  have R3' : RB mB v2 := by
    obtain ⟨q1, q2, q3, q4⟩ := R3
    exact ⟨by rw [hv2 1881 (by omega) (by omega) (by omega) (by omega) (by omega) (by omega)]; exact q1, q2.cg fun k b1 b2 => hv2 _ (by omega) (by omega) (by omega) (by omega) (by omega) (by omega), q3.cg fun k b1 b2 => hv2 _ (by omega) (by omega) (by omega) (by omega) (by omega) (by omega), q4.cg fun k b1 b2 => hv2 _ (by omega) (by omega) (by omega) (by omega) (by omega) (by omega)⟩
  have R4' : RO mO v2 := R4.cg h3.1 (hv2 1882 (by omega) (by omega) (by omega) (by omega) (by omega) (by omega)) (fun j b1 b2 => hv2 j (by omega) (by omega) (by omega) (by omega) (by omega) (by omega))
  have R5' : RR wr mR v2 := R5.cg (hv2 1885 (by omega) (by omega) (by omega) (by omega) (by omega) (by omega)) (fun j b1 b2 => hv2 j (by omega) (by omega) (by omega) (by omega) (by omega) (by omega))
  have R6' : RA mA nA v2 := R6.cg (hv2 1886 (by omega) (by omega) (by omega) (by omega) (by omega) (by omega)) (fun j b1 b2 => hv2 j (by omega) (by omega) (by omega) (by omega) (by omega) (by omega))
  -- the sequence
  obtain ⟨⟨x2, mO2⟩, s1, s2, s3, sq, s4, s5⟩ := s_arrange R3' h2v R4' h3v hPn.1.2.2.1
  replace s2 : x2 = zI (openC v2) := s2
  subst s2
  have hc := openC_0 v2
  have h20 := h3v.2.1
  obtain ⟨d1, d2⟩ := delS_Pn (e := openC v2) (openC v2).toNat 0 v2 (by omega) (by omega) hPn (s4.sqo h3v)
  refine ⟨upV (growV (expV (delS sq (openC v2).toNat 0 v2) 0) (30 * delS sq (openC v2).toNat 0 v2 1880)) 1875 (delS sq (openC v2).toNat 0 v2 1875 + 1), ?_, ?_, fun hlt => ?_, ?_, ?_, ?_, fun hc => ?_⟩
  · have hhr : 0 ≤ hourF v ∧ hourF v < 24 := by unfold hourF; omega
    have htp := h1.2.2.2.2.2.2.2.2 _ hhr.1 hhr.2
    have hb30 : Ev (f_X4_passHour_b30 (zI (hourF v)) (zI (heatF v)) mP nP mS mB mO mR mA nA) (fun r => ∃ wr', wr ≤ wr' ∧ wr' ≤ wr + 20 ∧ RPl wr' r.1 r.2.1 r.2.2.1 r.2.2.2.1 r.2.2.2.2.1 r.2.2.2.2.2.1 r.2.2.2.2.2.2.1 r.2.2.2.2.2.2.2 (upV (growV (expV (delS sq (openC v2).toNat 0 v2) 0) (30 * delS sq (openC v2).toNat 0 v2 1880)) 1875 (delS sq (openC v2).toNat 0 v2 1875 + 1))) := by
      have a2' : f_X6_melt (zI (heatF v)) mS = some mS1 := a2
      unfold f_X4_passHour_b30
      rw [a2', bd1_s]
      refine Ev_bd2 hpr (fun mP2 mS2 hr => ?_)
      obtain ⟨r1, r2⟩ := hr
      replace r1 : RPs mP2 nP v2 := r1
      replace r2 : RS mS2 v2 := r2
      rw [z_c2, r1.set (by omega) (by omega), s1, bd2_s, z_c0]
      have hh : hourF v = hourF v2 := by
        unfold hourF
        rw [hv2 1875 (by omega) (by omega) (by omega) (by omega) (by omega) (by omega)]
      refine Ev_mono (s_hour58 h20 (openC v2).toNat fuel 0 wr v2 mP2 mS2 mB mO2 mR mA nP nA (by omega) (by omega) (fuel_gt (by omega)) hPn hh (s4.sqo h3v) s5 w0 (by omega) ⟨r1, r2, R3', s3, R5', R6'⟩) (fun r hr => ?_)
      obtain ⟨wr', c1, c2, c3⟩ := hr
      exact ⟨wr', c1, by omega, c3⟩
    unfold f_X4_passHour
    rw [R1.2.2.1]
    simp (disch := omega) only [z_c24, z_div, z_mul, z_sub, lt_eq]
    rw [show v 1875 - v 1875 / 24 * 24 = hourF v from rfl, s_valueIn (n := 24) R1.2.1 (by omega) hhr.1 (by omega), bd1_s]
    simp (disch := omega) only [z_c0, z_le]
    unfold heatF at hb30
    by_cases c : v (8 + hourF v) ≤ 0
    · rw [if_pos c]
      by_cases c0 : 0 ≤ v (8 + hourF v)
      · rw [if_pos c0, show v (8 + hourF v) = 0 by omega] at hb30; exact hb30
      · rw [if_neg c0] at hb30; exact hb30
    · rw [if_neg c]
      rw [if_pos (by omega)] at hb30; exact hb30
  · have a1' : f_X9_melt mM nM = some nM1 := a1
    unfold f_X9_hour
    rw [a1', bd1_s]
    refine Ev_bd1 hpm (fun nM2 hM2 => ?_)
    refine Ev_bd2 (m_deliver hPn hM2 s4) (fun mM3 nM3 hr => ?_)
    obtain ⟨r1, r2⟩ := hr
    refine Ev_bd1 (m_expire r2 d1.2.2.1) (fun nM4 hM4 => ?_)
    have oe : ∀ {j : Int}, ¬ (1131 ≤ j ∧ j < 1331) → ¬ (1531 ≤ j ∧ j < 1731) → expV (delS sq (openC v2).toNat 0 v2) 0 j = delS sq (openC v2).toNat 0 v2 j := fun a b => expV_out (by have := d1.2.2.1.1; omega) (by have := d1.2.2.1.1; omega)
    have h5e : IS (v 1875 + 1) (expV (delS sq (openC v2).toNat 0 v2) 0) := d1.2.2.2.2.1.cg (oe (by omega) (by omega)) (oe (by omega) (by omega)) (oe (by omega) (by omega)) (fun j a1 a2 => oe (by omega) (by omega))
    have hg := m_grow18 (mM := mM3) (sv := sv) (tv := tv) h5e (expV (delS sq (openC v2).toNat 0 v2) 0 1880).toNat fuel 0 nM4 (by omega) (by have := h5e.1; omega) (fuel_gt (by have := h5e.1; omega)) (by rw [show 30 * (0 : Int) = 0 from rfl, growV_0]; exact hM4)
    rw [oe (j := 1880) (by omega) (by omega), oe (j := 1875) (by omega) (by omega)] at hg
    rw [z_c0]
    refine Ev_mono hg (fun r hr => ⟨fun j hj => ?_, hr.2⟩)
    rw [hr.1]; exact r1 j hj
  · obtain ⟨d11, d12, d13, d14, d15, d16, d17, d18, d19⟩ := d1
    have oe : ∀ {j : Int}, ¬ (1131 ≤ j ∧ j < 1331) → ¬ (1531 ≤ j ∧ j < 1731) → expV (delS sq (openC v2).toNat 0 v2) 0 j = delS sq (openC v2).toNat 0 v2 j := fun a b => expV_out (by have := d13.1; omega) (by have := d13.1; omega)
    have h5e : IS (v 1875 + 1) (expV (delS sq (openC v2).toNat 0 v2) 0) := d15.cg (oe (by omega) (by omega)) (oe (by omega) (by omega)) (oe (by omega) (by omega)) (fun j a1 a2 => oe (by omega) (by omega))
    have e75 : delS sq (openC v2).toNat 0 v2 1875 = v 1875 := by rw [d2 1875 (by omega), hv2 1875 (by omega) (by omega) (by omega) (by omega) (by omega) (by omega)]
    have e80 : delS sq (openC v2).toNat 0 v2 1880 = v 1880 := by rw [d2 1880 (by omega), hv2 1880 (by omega) (by omega) (by omega) (by omega) (by omega) (by omega)]
    have h5g := h5e.grow (by rw [oe (by omega) (by omega), e75]; omega)
    rw [oe (j := 1880) (by omega) (by omega), oe (j := 1875) (by omega) (by omega)] at h5g
    have f1 : ∀ j : Int, ¬ (357 ≤ j ∧ j < 507) → j ≠ 1875 → upV (growV (expV (delS sq (openC v2).toNat 0 v2) 0) (30 * delS sq (openC v2).toNat 0 v2 1880)) 1875 (delS sq (openC v2).toNat 0 v2 1875 + 1) j = expV (delS sq (openC v2).toNat 0 v2) 0 j := fun j a b => by
      rw [upV_ne _ _ b, growV_out _ (by rw [e80]; omega)]
    have f2 : ∀ j : Int, ¬ (357 ≤ j ∧ j < 507) → j ≠ 1875 → ¬ (1131 ≤ j ∧ j < 1331) → ¬ (1531 ≤ j ∧ j < 1731) → upV (growV (expV (delS sq (openC v2).toNat 0 v2) 0) (30 * delS sq (openC v2).toNat 0 v2 1880)) 1875 (delS sq (openC v2).toNat 0 v2 1875 + 1) j = delS sq (openC v2).toNat 0 v2 j := fun j a b c d => by
      rw [f1 j a b, oe c d]
    have f75 : upV (growV (expV (delS sq (openC v2).toNat 0 v2) 0) (30 * delS sq (openC v2).toNat 0 v2 1880)) 1875 (delS sq (openC v2).toNat 0 v2 1875 + 1) 1875 = v 1875 + 1 := by rw [upV_same, e75]
    have h12 := hP1.2.1
    unfold Pl
    rw [f75]
    refine ⟨d11.cg fun j a1 a2 => f2 j (by omega) (by omega) (by omega) (by omega), d12.cg (f2 _ (by omega) (by omega) (by omega) (by omega)) (fun j a1 a2 => f2 j (by omega) (by omega) (by omega) (by omega)), (expV_IO d13).cg (f1 _ (by omega) (by omega)) (f1 _ (by omega) (by omega)) (fun j a1 a2 => f1 j (by omega) (by omega)), d14.cg (f2 _ (by omega) (by omega) (by omega) (by omega)) (fun j a1 a2 => f2 j (by omega) (by omega) (by omega) (by omega)), h5g, by omega, ?_, ?_, ?_, ?_, ?_⟩
    · rw [f2 1885 (by omega) (by omega) (by omega) (by omega)]; exact d17
    · rw [f2 1878 (by omega) (by omega) (by omega) (by omega), f2 52 (by omega) (by omega) (by omega) (by omega), f2 53 (by omega) (by omega) (by omega) (by omega), f2 54 (by omega) (by omega) (by omega) (by omega), f2 55 (by omega) (by omega) (by omega) (by omega), f2 56 (by omega) (by omega) (by omega) (by omega)]
      rw [d2 1878 (by omega), d2 52 (by omega), d2 53 (by omega), d2 54 (by omega), d2 55 (by omega), d2 56 (by omega), hv2l, hv2m 52 (by omega) (by omega), hv2m 53 (by omega) (by omega), hv2m 54 (by omega) (by omega), hv2m 55 (by omega) (by omega), hv2m 56 (by omega) (by omega)]
      omega
    · rw [f2 1876 (by omega) (by omega) (by omega) (by omega), d2 1876 (by omega)]
      have := a6 1876 (by omega) (by omega) (by omega)
      omega
    · rw [f2 1877 (by omega) (by omega) (by omega) (by omega)]
      have := blocksF_b d15
      omega
    · rw [f2 1879 (by omega) (by omega) (by omega) (by omega), d2 1879 (by omega)]
      have := a6 1879 (by omega) (by omega) (by omega)
      omega
  · rw [upV_same, d2 1875 (by omega), hv2 1875 (by omega) (by omega) (by omega) (by omega) (by omega) (by omega)]
  · have e80 := d2 1880 (by omega)
    have e280 := hv2 1880 (by omega) (by omega) (by omega) (by omega) (by omega) (by omega)
    rw [upV_ne _ _ (by omega), growV_out _ (by omega), expV_out (by have := d1.2.2.1.1; omega) (by have := d1.2.2.1.1; omega), d2 1882 (by omega), hv2 1882 (by omega) (by omega) (by omega) (by omega) (by omega) (by omega)]
  · have e80 := d2 1880 (by omega)
    have e280 := hv2 1880 (by omega) (by omega) (by omega) (by omega) (by omega) (by omega)
    rw [upV_ne _ _ (by omega), growV_out _ (by omega), expV_out (by have := d1.2.2.1.1; omega) (by have := d1.2.2.1.1; omega), e80, e280]
  · have e80 := d2 1880 (by omega)
    have e280 := hv2 1880 (by omega) (by omega) (by omega) (by omega) (by omega) (by omega)
    have dc := CW.del (e := openC v2) (openC v2).toNat 0 v2 (by omega) (by omega) hPn (s4.sqo h3v) (hcw hc)
    refine dc.cg d1.2.2.2.2.1 d1.2.2.2.1.1.2 fun j hj => ?_
    have hoo := d1.2.2.1.1
    rw [upV_ne _ _ (by omega), growV_out _ (by omega), expV_out (by omega) (by omega)]
