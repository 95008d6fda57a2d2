/-! the class's turn, and the deliveries of an hour -/
abbrev PMs : Type := Mem × MemL × Mem × Mem × Mem × Mem × Mem × MemL
theorem s_srv117 {T : Int} {v0 : VI} {b o d rem0 M P wr : Int} {v : VI} {mP mS mB mO mR mA : Mem} {nP nA : MemL} {mS' : Mem} (h : Pn T v0) (F : Fx T v0 b o d rem0) (hw : wr < 1000000) (L : Lp T v0 b o d rem0 M P v) (hd : v0 (515 + b) ≤ v0 3) (R : RPl wr mP nP mS mB mO mR mA nA v0) (hS : RS mS' v) :
    Ev (f_X4_serve_b117 (zI o) (zI d) (zI b) (zI M) (zI P) mP nP mS' mB mO mR mA nA) (fun r => (∃ wr', wr ≤ wr' ∧ wr' ≤ wr + 1 ∧ RPl wr' r.1 r.2.1 r.2.2.1 r.2.2.2.1 r.2.2.2.2.1 r.2.2.2.2.2.1 r.2.2.2.2.2.2.1 r.2.2.2.2.2.2.2 (endV o M P v)) ∧ r.2.2.2.2.1 9 = mO 9) := by
  have Fb := F.b
  obtain ⟨F1, F2, F3, F4, F5, F6, F7, F8, F9, F10, F11⟩ := id F
  obtain ⟨⟨L1, L2, L3, L4, L5, L6, L7⟩, LS, LA, M0, P0, MB, PB, MR0, MP⟩ := id L
  obtain ⟨-, -, -, -, -, -, hk, hgb, hdl⟩ := id h
  obtain ⟨R1, R2, R3, R4, R5, R6⟩ := R
  have hB0 := blocksF_b F5
  have hbv := blocksF_b LS
  have hbb := F2.1
  have hoo := F3.1
  have e85 : v 1885 = v0 1885 := L7 _ (by omega) (by omega) (by omega) (by omega) (by omega) (by omega) (by omega) (by omega) (by omega)
  have hkv : 0 ≤ v 1885 ∧ v 1885 ≤ 16 := by rw [e85]; exact hk
  have out : ∀ j : Int, ¬ (1731 ≤ j ∧ j < 1811) → j ≠ 1885 → j ≠ 1531 + o → endV o M P v j = v j := fun j a b c => endV_out hkv F7.1 (by omega) a b c
  have hSe : RS mS' (endV o M P v) := hS.cg (out _ (by omega) (by omega) (by omega)) (out _ (by omega) (by omega) (by omega)) (fun j a1 a2 => out _ (by omega) (by omega) (by omega)) (fun s a1 a2 => by have := LS.sz a1 a2; omega)
  have fr : ∀ j : Int, ¬ (47 ≤ j ∧ j < 52) → ¬ (57 ≤ j ∧ j < 507) → ¬ (1731 ≤ j ∧ j < 1875) → j ≠ 1886 → j ≠ 931 + o → j ≠ 1531 + o → j ≠ 515 + b → j ≠ 523 + b → j ≠ 1877 → j ≠ 1883 → j ≠ 1885 → endV o M P v j = v0 j := (h.end F L hd).2
  by_cases c : M = 0
  · have hP0 := MP c
    have e0 : ∀ j : Int, ¬ (47 ≤ j ∧ j < 52) → ¬ (57 ≤ j ∧ j < 507) → endV o M P v j = v0 j := fun j a1 a2 => by
      unfold endV
      rw [if_pos c]
      by_cases b1 : (1811 ≤ j ∧ j < 1875) ∨ j = 1886
      · rw [L6 j b1, if_pos c]
      · by_cases b2 : j = 931 + o
        · subst b2; omega
        · by_cases b3 : j = 515 + b
          · subst b3; omega
          · by_cases b4 : j = 523 + b
            · subst b4; omega
            · by_cases b5 : j = 1877
              · subst b5; omega
              · by_cases b6 : j = 1883
                · subst b6; omega
                · exact L7 j a1 a2 (by omega) (by omega) b2 b3 b4 b5 b6
    unfold f_X4_serve_b117
    simp (disch := omega) only [z_c0, z_le]
    rw [if_pos (by omega)]
    refine Ev_some ⟨⟨wr, by omega, by omega, R1.cg (fun j a1 a2 => e0 j (by omega) (by omega)) (fun j a1 a2 _ _ _ _ => e0 j (by omega) (by omega)), hSe, ?_, R4.cg hoo (e0 _ (by omega) (by omega)) (fun j a1 a2 => e0 j (by omega) (by omega)), R5.cg (e0 _ (by omega) (by omega)) (fun j a1 a2 => e0 j (by omega) (by omega)), R6.cg (e0 _ (by omega) (by omega)) (fun j a1 a2 => e0 j (by omega) (by omega))⟩, rfl⟩
    obtain ⟨q1, q2, q3, q4⟩ := R3
    exact ⟨by rw [e0 _ (by omega) (by omega)]; exact q1, q2.cg fun k a1 a2 => e0 _ (by omega) (by omega), q3.cg fun k a1 a2 => e0 _ (by omega) (by omega), q4.cg fun k a1 a2 => e0 _ (by omega) (by omega)⟩
  · unfold f_X4_serve_b117
    simp (disch := omega) only [z_c0, z_le]
    rw [if_neg (by omega)]
    have ew : v (731 + o) = v0 (731 + o) := L7 _ (by omega) (by omega) (by omega) (by omega) (by omega) (by omega) (by omega) (by omega) (by omega)
    refine Ev_bd1 (s_deliver R4 F3 F7.1 F7.2 F8 M0 (by omega)) (fun mO1 hO1 => ?_)
    refine Ev_bd1 (s_charge R3 F2 M P (by omega) (by omega)) (fun mB1 hB1 => ?_)
    refine Ev_bd2 (s_enter R6 F4 (b := b) (d := d) (m := M) (p := P) (by omega) (by omega) (by omega) (by omega) (by omega) (by omega) (by omega) (by omega)) (fun mA1 nA1 hA1 => ?_)
    rw [R1.2.2.1]
    refine Ev_bd1 (s_write R5 hw (o := o) (m := M) (p := P) rfl) (fun mR1 hR1 => ?_)
    refine Ev_lt (Ev_lt (Ev_some ⟨⟨wr + 1, by omega, by omega, ?_, hSe, ?_, ?_, ?_, ?_⟩, hO1.2⟩))
    · obtain ⟨q1, q2, q3, q4, q5, q6, q7, q8⟩ := R1
      have f : ∀ j : Int, ((0 ≤ j ∧ j < 32) ∨ j = 1875 ∨ j = 1876 ∨ j = 1879 ∨ j = 1884) → endV o M P v j = v0 j := fun j hj => fr j (by omega) (by omega) (by omega) (by omega) (by omega) (by omega) (by omega) (by omega) (by omega) (by omega) (by omega)
      unfold RPs
      simp (disch := omega) only [wrI_ne, wrI_same, wrL_ne, wrL_same]
      refine ⟨q1.cg fun k a1 a2 => f k (by omega), q2.cg fun k a1 a2 => f _ (by omega), by rw [f _ (by omega)]; exact q3, by rw [f _ (by omega)]; exact q4, ?_, by rw [f _ (by omega)]; exact q6, ?_, by rw [f _ (by omega)]; exact q8⟩
      · rw [out 1877 (by omega) (by omega) (by omega), L4, q5, z_add]
      · rw [out 1883 (by omega) (by omega) (by omega), L5, q7, z_l (by omega) (by omega), y_add]
    · obtain ⟨q1, q2, q3, q4⟩ := hB1
      refine ⟨?_, q2.cg fun k a1 a2 => ?_, q3.cg fun k a1 a2 => ?_, q4.cg fun k a1 a2 => ?_⟩
      · rw [fr 1881 (by omega) (by omega) (by omega) (by omega) (by omega) (by omega) (by omega) (by omega) (by omega) (by omega) (by omega)]
        simp (disch := omega) only [upV_ne] at q1
        exact q1
      · show endV o M P v (507 + k) = upV _ _ _ (507 + k)
        rw [fr (507 + k) (by omega) (by omega) (by omega) (by omega) (by omega) (by omega) (by omega) (by omega) (by omega) (by omega) (by omega)]
        simp (disch := omega) only [upV_ne]
      · show endV o M P v (515 + k) = upV _ _ _ (515 + k)
        by_cases e : k = b
        · rw [e, upV_same, out _ (by omega) (by omega) (by omega)]; exact L2
        · rw [fr (515 + k) (by omega) (by omega) (by omega) (by omega) (by omega) (by omega) (by omega) (by omega) (by omega) (by omega) (by omega)]
          simp (disch := omega) only [upV_ne]
      · show endV o M P v (523 + k) = upV _ _ _ (523 + k)
        by_cases e : k = b
        · rw [e, upV_ne _ _ (by omega), upV_same, out _ (by omega) (by omega) (by omega)]; exact L3
        · rw [fr (523 + k) (by omega) (by omega) (by omega) (by omega) (by omega) (by omega) (by omega) (by omega) (by omega) (by omega) (by omega)]
          simp (disch := omega) only [upV_ne]
    · have hst := endV_st (M := M) (P := P) hkv F7.1 (show o < 200 by omega)
      have e31 : v (1531 + o) = 0 := by rw [L7 _ (by omega) (by omega) (by omega) (by omega) (by omega) (by omega) (by omega) (by omega) (by omega)]; exact F8
      rw [if_neg c, e31, L1, ew] at hst
      have e82 : endV o M P v 1882 = v0 1882 := fr _ (by omega) (by omega) (by omega) (by omega) (by omega) (by omega) (by omega) (by omega) (by omega) (by omega) (by omega)
      have ed : delV v0 o M 1882 = v0 1882 := by
        unfold delV
        by_cases lt : v0 (931 + o) + M < v0 (731 + o)
        · rw [if_pos lt, upV_ne _ _ (by omega)]
        · rw [if_neg lt, upV_ne _ _ (by omega), upV_ne _ _ (by omega)]
      refine hO1.1.cg (by rw [ed]; exact hoo) (by rw [e82, ed]) (fun j a1 a2 => ?_)
      by_cases c1 : j = 931 + o
      · rw [c1, out _ (by omega) (by omega) (by omega), L1]
        unfold delV
        by_cases lt : v0 (931 + o) + M < v0 (731 + o)
        · rw [if_pos lt, upV_same]
        · rw [if_neg lt, upV_ne _ _ (by omega), upV_same]
      · by_cases c2 : j = 1531 + o
        · rw [c2, hst]
          unfold delV
          by_cases lt : v0 (931 + o) + M < v0 (731 + o)
          · rw [if_pos lt, if_pos lt, upV_ne _ _ (by omega)]; exact F8.symm
          · rw [if_neg lt, if_neg lt, upV_same]
        · rw [fr j (by omega) (by omega) (by omega) (by omega) c1 c2 (by omega) (by omega) (by omega) (by omega) (by omega)]
          unfold delV
          by_cases lt : v0 (931 + o) + M < v0 (731 + o)
          · rw [if_pos lt, upV_ne _ _ c1]
          · rw [if_neg lt, upV_ne _ _ c2, upV_ne _ _ c1]
    · have hww : ∀ j : Int, (1731 ≤ j ∧ j < 1811) ∨ j = 1885 ∨ j = 1875 → (if v (931 + o) < v (731 + o) then v else upV v (1531 + o) 1) j = v0 j := fun j hj => by
        have : v j = v0 j := L7 j (by omega) (by omega) (by omega) (by omega) (by omega) (by omega) (by omega) (by omega) (by omega)
        by_cases lt : v (931 + o) < v (731 + o)
        · rw [if_pos lt]; exact this
        · rw [if_neg lt, upV_ne _ _ (by omega)]; exact this
      have he : ∀ j : Int, (1731 ≤ j ∧ j < 1811) ∨ j = 1885 → endV o M P v j = recV v0 o M P j := fun j hj => by
        unfold endV
        rw [if_neg c]
        by_cases c3 : j = 1810
        · rw [c3]
          have ew : ∀ w : VI, (0 ≤ w 1885 ∧ w 1885 ≤ 16) → w 1885 = v0 1885 → (∀ j : Int, 1731 ≤ j → j < 1811 → w j = v0 j) → w 1875 = v0 1875 → recV w o M P 1810 = recV v0 o M P 1810 := fun w k1 k2 k3 k4 => by
            have ec : codF w o M P = codF v0 o M P := by
              unfold codF
              rw [k2]
              by_cases d0 : v0 1885 = 0
              · rw [if_pos d0, if_pos d0]
              · rw [if_neg d0, if_neg d0, k3 _ (by omega) (by omega)]
            unfold recV
            rw [k2, ec]
            by_cases d0 : v0 1885 = 16
            · rw [if_pos d0, if_pos d0]
              unfold recW
              simp (disch := omega) only [upV_at]
            · rw [if_neg d0, if_neg d0]
              unfold recW
              rw [k4]
              simp only [upV, k3 1810 (by omega) (by omega)]
          exact ew _ (by rw [hww 1885 (by omega)]; exact hk) (hww 1885 (by omega)) (fun j a1 a2 => hww j (Or.inl ⟨a1, a2⟩)) (hww 1875 (by omega))
        · refine recV_cg hk (hww 1885 (by omega)) (fun j a1 a2 => hww j (Or.inl ⟨a1, a2⟩)) (hww 1875 (by omega)) (hww j (by omega)) ?_
          by_cases c4 : j = 1885
          · exact Or.inr (by omega)
          · exact Or.inl (hww (j + 1) (by omega))
      exact hR1.cg (he 1885 (by omega)) (fun j a1 a2 => he j (by omega))
    · have rm : accOf v0 b d = -1 → v0 1886 < 16 := fun q => acc_room F4 (by omega) (by omega) (by omega) (by omega) q
      refine RA.cg hA1 ?_ (fun j a1 a2 => ?_)
      · rw [out _ (by omega) (by omega) (by omega), L6 _ (Or.inr rfl), if_neg c]
      · rw [out _ (by omega) (by omega) (by omega), L6 _ (Or.inl ⟨a1, a2⟩), if_neg c]
theorem s_serve {T : Int} {v0 : VI} {o wr : Int} {mP mS mB mO mR mA : Mem} {nP nA : MemL} (h : Pn T v0) (o0 : 0 ≤ o) (o1 : o < v0 1882) (hz : v0 (1531 + o) = 0) (hw : wr < 1000000) (R : RPl wr mP nP mS mB mO mR mA nA v0) :
    Ev (f_X4_serve (zI o) (zI (bandF v0)) mP nP mS mB mO mR mA nA) (fun r => (∃ wr', wr ≤ wr' ∧ wr' ≤ wr + 1 ∧ RPl wr' r.1 r.2.1 r.2.2.1 r.2.2.2.1 r.2.2.2.2.1 r.2.2.2.2.2.1 r.2.2.2.2.2.2.1 r.2.2.2.2.2.2.2 (turnV o v0)) ∧ r.2.2.2.2.1 9 = mO 9) := by
  have F := h.fx o0 o1 hz
  have Fb := F.b
  obtain ⟨F1, F2, F3, F4, F5, F6, F7, F8, F9, F10, F11⟩ := id F
  have hB0 := blocksF_b F5
  have hsk := s_isSkipped F R
  have hrm := s_remaining R.2.2.2.1 F3 o0 o1
  have hol := (s_oldest R.2.1 F5).1
  unfold f_X4_serve
  rw [s_valueIn (n := 200) R.2.2.2.1.2.2.1 (by omega) o0 (by omega), bd1_s, hsk, bd1_s]
  unfold turnV
  by_cases c : v0 3 < v0 (515 + v0 (531 + o)) ∨ (v0 (1331 + o) = 1 ∧ storedF v0 < remF v0 o)
  · rw [if_pos c, if_neg (by decide)]
    rw [if_pos c]
    exact Ev_some ⟨⟨wr, by omega, by omega, R⟩, rfl⟩
  · rw [if_neg c, if_pos (by rfl)]
    rw [if_neg c, hrm, bd1_s, hol, bd1_s, z_c0]
    obtain ⟨mS', g1, g2⟩ := s_srv50 (mP := mP) (mB := mB) (mO := mO) (mR := mR) (mA := mA) (nP := nP) (nA := nA) F R.1 R.2.2.1 (blocksF v0).toNat fuel 0 0 0 v0 mS (by omega) (by omega) (by omega) (fuel_gt (by omega)) (Lp0 F) R.2.1
    rw [g1]
    exact s_srv117 h F hw (Lp.fin F _ 0 0 v0 (Lp0 F)) (by omega) R g2
theorem m_turn {T : Int} {v0 : VI} {o : Int} {mM : Mem} {nM : MemL} {sv tv : Nat → Int64} (h : Pn T v0) (o0 : 0 ≤ o) (o1 : o < v0 1882) (hz : v0 (1531 + o) = 0) (hM : MR nM v0 sv tv) : Ev (f_X9_serve (zI o) mM nM) (fun nM' => MR nM' (turnV o v0) sv tv) := m_serve (h.fx o0 o1 hz) h.2.2.2.2.2.2.1 hM
theorem turn_Pn {T : Int} {v0 : VI} {o : Int} (h : Pn T v0) (o0 : 0 ≤ o) (o1 : o < v0 1882) (hz : v0 (1531 + o) = 0) : Pn T (turnV o v0) ∧ (∀ j : Int, ¬ (47 ≤ j ∧ j < 52) → ¬ (57 ≤ j ∧ j < 507) → ¬ (515 ≤ j ∧ j < 531) → ¬ (1731 ≤ j ∧ j < 1875) → j ≠ 1886 → j ≠ 931 + o → j ≠ 1531 + o → j ≠ 1877 → j ≠ 1883 → j ≠ 1885 → turnV o v0 j = v0 j) := by
  have F := h.fx o0 o1 hz
  have Fb := F.b
  unfold turnV
  by_cases c : v0 3 < v0 (515 + v0 (531 + o)) ∨ (v0 (1331 + o) = 1 ∧ storedF v0 < remF v0 o)
  · rw [if_pos c]; exact ⟨h, fun j _ _ _ _ _ _ _ _ _ _ => rfl⟩
  · rw [if_neg c]
    have e := h.end F (Lp.fin F (blocksF v0).toNat 0 0 v0 (Lp0 F)) (by omega)
    exact ⟨e.1, fun j a1 a2 a3 a4 a5 a6 a7 a8 a9 a10 => e.2 j a1 a2 a4 a5 a6 a7 (by omega) (by omega) a8 a9 a10⟩
/-- the turns of the sequence from the p-th on -/
def delS (sq : Int → Int) : Nat → Int → VI → VI
  | 0, _, v => v
  | n + 1, p, v => delS sq n (p + 1) (turnV (sq p) v)
/-- what the sequence promises of the turns to come -/
def SqO (sq : Int → Int) (p e : Int) (v : VI) : Prop := (∀ q : Int, p ≤ q → q < e → 0 ≤ sq q ∧ sq q < v 1882 ∧ v (1531 + sq q) = 0) ∧ (∀ q r : Int, 0 ≤ q → q < r → r < e → sq q ≠ sq r)
theorem SqO.next {T : Int} {sq : Int → Int} {p e : Int} {v : VI} (h : Pn T v) (hs : SqO sq p e v) (p0 : 0 ≤ p) (pe : p < e) : SqO sq (p + 1) e (turnV (sq p) v) ∧ Pn T (turnV (sq p) v) := by
  have hp := hs.1 p (Int.le_refl _) pe
  have ht := turn_Pn h hp.1 hp.2.1 hp.2.2
  have hoo := h.2.2.1.1
  refine ⟨⟨fun q q0 q1 => ?_, hs.2⟩, ht.1⟩
  have hq := hs.1 q (by omega) q1
  have hne := hs.2 p q p0 (by omega) q1
  rw [ht.2 1882 (by omega) (by omega) (by omega) (by omega) (by omega) (by omega) (by omega) (by omega) (by omega) (by omega), ht.2 (1531 + sq q) (by omega) (by omega) (by omega) (by omega) (by omega) (by omega) (by omega) (by omega) (by omega) (by omega)]
  exact hq
theorem m_del55 {T : Int} {mM : Mem} {sv tv : Nat → Int64} {sq : Int → Int} {e : Int} (e20 : e ≤ 20) (h3 : ∀ p : Int, 0 ≤ p → p < e → mM 3 (zI p).toNatClampNeg = zI (sq p)) : ∀ (n fu : Nat) (p : Int) (v : VI) (nM : MemL), 0 ≤ p → p + n = e → n < fu → Pn T v → SqO sq p e v → MR nM v sv tv →
    Ev (f_X9_deliver_L55 (zI e) mM fu (zI p) nM) (fun r => r.1 = mM ∧ MR r.2 (delS sq n p v) sv tv) := by
  intro n
  induction n with
  | zero =>
    intro fu p v nM p0 hn hf h hs hM
    obtain ⟨fu, rfl⟩ : ∃ m, fu = m + 1 := ⟨fu - 1, by omega⟩
    simp (disch := omega) only [f_X9_deliver_L55, z_c1, z_add, z_sub, z_neg, y_neg, z_mul, z_div, z_l, y_i, y_add, y_sub, y_mul, y_div, z_lt, z_le, z_eq, y_c1, y_c2, y_c3, y_c4, y_c5, z_gi, bd1_s, bd2_s, mul30, z_ofNat, lt_eq]
    rw [if_pos (by omega)]
    exact Ev_some ⟨rfl, hM⟩
  | succ n ih =>
    intro fu p v nM p0 hn hf h hs hM
    obtain ⟨fu, rfl⟩ : ∃ m, fu = m + 1 := ⟨fu - 1, by omega⟩
    have hp := hs.1 p (Int.le_refl _) (by omega)
    have hx := hs.next h p0 (by omega)
    have hl := h3 p p0 (by omega)
    simp (disch := omega) only [f_X9_deliver_L55, z_c1, z_add, z_sub, z_neg, y_neg, z_mul, z_div, z_l, y_i, y_add, y_sub, y_mul, y_div, z_lt, z_le, z_eq, y_c1, y_c2, y_c3, y_c4, y_c5, z_gi, bd1_s, bd2_s, mul30, z_ofNat, hl]
    rw [if_neg (by omega)]
    refine Ev_bd1 (m_turn h hp.1 hp.2.1 hp.2.2 hM) (fun nM' hM' => ?_)
    simp only [lt_eq]
    exact ih fu (p + 1) _ nM' (by omega) (by omega) (by omega) hx.2 hx.1 hM'
theorem delS_Pn {T : Int} {sq : Int → Int} {e : Int} : ∀ (n : Nat) (p : Int) (v : VI), 0 ≤ p → p + n = e → Pn T v → SqO sq p e v → Pn T (delS sq n p v) ∧ (∀ j : Int, (0 ≤ j ∧ j < 47) ∨ (52 ≤ j ∧ j < 57) ∨ (507 ≤ j ∧ j < 515) ∨ (531 ≤ j ∧ j < 931) ∨ (1131 ≤ j ∧ j < 1531) ∨ j = 1875 ∨ j = 1876 ∨ j = 1878 ∨ j = 1879 ∨ j = 1880 ∨ j = 1881 ∨ j = 1882 ∨ j = 1884 ∨ j = 1887 → delS sq n p v j = v j)
  | 0, p, v, _, _, h, _ => ⟨h, fun _ _ => rfl⟩
  | n + 1, p, v, p0, hn, h, hs => by
    have hx := hs.next h p0 (by omega)
    have hp := hs.1 p (Int.le_refl _) (by omega)
    have hoo := h.2.2.1.1
    have ht := (turn_Pn h hp.1 hp.2.1 hp.2.2).2
    have hi := delS_Pn n (p + 1) _ (by omega) (by omega) hx.2 hx.1
    refine ⟨hi.1, fun j hj => (hi.2 j hj).trans (ht j (by omega) (by omega) (by omega) (by omega) (by omega) (by omega) (by omega) (by omega) (by omega) (by omega))⟩
