/-! the mean age, the text, what is asked -/
theorem agesF_b {v : VI} {T : Int} (hI : IS T v) : 0 ≤ agesF v ∧ agesF v ≤ 2000000 := by
  have hb := hI.1
  have h5 := hI.2.2.2
  have ht := hI.2.1
  have hr : ∀ s : Int, 0 ≤ s → s < v 1880 → 0 ≤ rowSum v 357 s ∧ rowSum v 357 s ≤ 301470 := fun s q0 q1 => by
    have hz := hI.sz (s := s) q0 (by omega)
    have hl := sumR_le (f := fun j => v (357 + (30 * s + j))) (c := 10049) (n := (v (47 + s)).toNat) (s := 0) (fun j j0 j1 => by
      have := h5 s j q0 (by omega) j0 (by omega)
      show 0 ≤ v (357 + (30 * s + j)) ∧ v (357 + (30 * s + j)) ≤ 10049
      omega)
    unfold rowSum
    omega
  have hl := sumR_le (f := fun s => rowSum v 357 s) (c := 301470) (n := (v 1880).toNat) (s := 0) (fun s q0 q1 => hr s q0 (by omega))
  unfold agesF
  omega
theorem age8 {r : UInt64} (h : r.toNat % 2 ^ 63 < 1057 * 2 ^ 52) : FP.dmul r 4620693217682128896 &&& 0x7fffffffffffffff ≤ 0x7ff0000000000000 := by
  have h1 := Jvm.FP.Core.dmul_mag (a := r) (b := 4620693217682128896) (Ka := 1057) (Kb := 1027) h (by decide) (by omega) (by omega)
  have h2 : (FP.dmul r 4620693217682128896).toNat % 2 ^ 63 < (1057 + 1027 - 1025 + 3) * 2 ^ 52 := h1
  rw [UInt64.le_iff_toNat_le, UInt64.toNat_and]
  show (FP.dmul r 4620693217682128896).toNat &&& (2 ^ 63 - 1) ≤ 2047 * 2 ^ 52
  rw [Nat.and_two_pow_sub_one_eq_mod]
  omega
theorem a_meanAge {imT imdP : Mem} {indP : MemL} {imdS imdB imdO imdR imdA : Mem} {indA : MemL} {mP : Mem} {nP : MemL} {mS mB mO mR mA : Mem} {nA : MemL} {mH : Mem} {hs : Nat → PSt} (hI : LQ mP nP mS mB mO mR mA nA mH hs) : ∃ r' : UInt64, f_X8_meanAge imT imdP indP imdS imdB imdO imdR imdA indA mP nP mS mB mO mR mA nA mH hs = some r' ∧ r'.toNat % 2 ^ 63 < 1057 * 2 ^ 52 ∧ FP.dcmp r' r' = some .eq := by
  obtain ⟨v, c, H, h, R, hH⟩ := hI
  have hIS := h.1.1.2.2.2.2.1
  have hbl := blocksF_b hIS
  have hag := agesF_b hIS
  obtain ⟨wr, w0, w1, R⟩ := R
  have e1 := s_blocks R.2.1 hIS
  have e2 := s_sumOfAges R.2.1 hIS
  have e8 : f_X8_meanAge imT imdP indP imdS imdB imdO imdR imdA indA mP nP mS mB mO mR mA nA mH hs = (if zI (blocksF v) ≤ 0 then some FP.dconst0 else gn (FP.ddiv (FP.i2d (zI (agesF v))) (FP.i2d (zI (blocksF v)))) (some (FP.ddiv (FP.i2d (zI (agesF v))) (FP.i2d (zI (blocksF v)))))) := by
    unfold f_X8_meanAge
    rw [e1, bd1_s]
    by_cases q : zI (blocksF v) ≤ 0
    · rw [if_pos q, if_pos q]; rfl
    · rw [if_neg q, if_neg q, e2, bd1_s]; rfl
  have z0 : (zI (blocksF v) ≤ 0) = (blocksF v ≤ 0) := by rw [show (0 : Int32) = zI 0 from rfl]; exact z_le (by omega) (by omega) (by omega) (by omega)
  by_cases q : blocksF v = 0
  · rw [if_pos (by rw [z0]; omega)] at e8
    exact ⟨FP.dconst0, e8, by decide +kernel, age_zero⟩
  · rw [if_neg (by rw [z0]; omega)] at e8
    have hn : (zI (blocksF v)).toInt ≠ 0 := by rw [z_toInt (by omega) (by omega)]; exact q
    have g : ∀ {α : Type} (x : Option α), gn (FP.ddiv (FP.i2d (zI (agesF v))) (FP.i2d (zI (blocksF v)))) x = x := fun x => by unfold gn; rw [if_pos (age_n64 _ _ hn)]
    rw [g] at e8
    exact ⟨_, e8, age_mag _ _ hn, age_self _ _ hn⟩
/-- nothing is ever written into the text -/
theorem ra6 {mT : Mem} (h6 : mT 6 0 = 0) : ∀ fu : Nat, 0 < fu → f_X7_readAll_L6 fu 0 mT = some mT
  | 0, h => absurd h (Nat.lt_irrefl 0)
  | fu + 1, _ => by
    show (if (120 : Int32) ≤ 0 then some mT else bd1 (f_X7_hasCommand mT) _) = some mT
    rw [if_neg (by decide)]
    have e : f_X7_hasCommand mT = some 0 := by
      unfold f_X7_hasCommand
      rw [if_pos h6]
    rw [e, bd1_s, if_pos rfl]
theorem ra0 {mT : Mem} (h0 : mT 0 0 = 0) : ∃ mT' : Mem, f_X7_readAll mT = some mT' ∧ mT' 0 0 = 0 := by
  refine ⟨wrI (wrI (wrI mT 1 (fun _ => 0)) 2 (fun _ => 0)) 6 (fun _ => 0), ?_, ?_⟩
  · have e0 : (wrI (wrI mT 1 (fun _ => (0 : Int32))) 2 (fun _ => (0 : Int32))) 0 0 = 0 := by rw [wrI_ne _ _ (by decide), wrI_ne _ _ (by decide)]; exact h0
    have es : f_X7_start mT = some (wrI (wrI (wrI mT 1 (fun _ => 0)) 2 (fun _ => 0)) 6 (fun _ => 0)) := by
      unfold f_X7_start
      rw [lt_eq, lt_eq, if_pos (by rw [e0]; decide), lt_eq]
    unfold f_X7_readAll
    rw [es, bd1_s]
    exact ra6 (by rw [wrI_same]) fuel (fuel_gt (by decide))
  · rw [wrI_ne _ _ (by decide), wrI_ne _ _ (by decide), wrI_ne _ _ (by decide)]; exact h0
section
variable {imT imdP : Mem} {indP : MemL} {imdS imdB imdO imdR imdA : Mem} {indA : MemL} {mP : Mem} {nP : MemL} {mS mB mO mR mA : Mem} {nA : MemL} {mH : Mem} {hs : Nat → PSt}
theorem a_errorPosition (h0 : imT 0 0 = 0) : Ev (f_X8_errorPosition imT imdP indP imdS imdB imdO imdR imdA indA mP nP mS mB mO mR mA nA mH hs) (fun o => o.2 0 0 = 0) := by
  obtain ⟨mT', e, h⟩ := ra0 h0
  unfold f_X8_errorPosition
  rw [e, bd1_s]
  exact Ev_if (fun _ => Ev_some h) (fun _ => Ev_some h)
theorem a_errorKind (h0 : imT 0 0 = 0) : Ev (f_X8_errorKind imT imdP indP imdS imdB imdO imdR imdA indA mP nP mS mB mO mR mA nA mH hs) (fun o => o.2 0 0 = 0) := by
  obtain ⟨mT', e, h⟩ := ra0 h0
  unfold f_X8_errorKind
  rw [e, bd1_s]
  exact Ev_some h
theorem ev_ask (hI : LQ mP nP mS mB mO mR mA nA mH hs) (h0 : imT 0 0 = 0) {w1 w2 : Int32} : Ev (f_L_ask w1 w2 imT imdP indP imdS imdB imdO imdR imdA indA mP nP mS mB mO mR mA nA mH hs) (fun o => o.2.1 0 0 = 0) := by
  unfold f_L_ask
  refine Ev_bd1 (low_ev _ _ (by decide)) (fun _ _ => ?_)
  refine Ev_bd1 (low_ev _ _ (by decide)) (fun _ _ => ?_)
  refine Ev_if (fun _ => ?_) (fun _ => ?_)
  · refine Ev_bd1 (low_ev _ _ (by decide)) (fun _ _ => ?_)
    exact Ev_bdn9 (a_massAfter hI _) (fun _ _ _ _ _ _ _ _ _ _ => Ev_some h0)
  · refine Ev_if (fun _ => ?_) (fun _ => ?_)
    · refine Ev_bd1 (low_ev _ _ (by decide)) (fun _ _ => ?_)
      exact Ev_bdn9 (a_completeIn hI _) (fun _ _ _ _ _ _ _ _ _ _ => Ev_some h0)
    · refine Ev_if (fun _ => ?_) (fun _ => ?_)
      · refine Ev_bd1 (low_ev _ _ (by decide)) (fun _ _ => ?_)
        exact Ev_bdn9 (a_bestRule hI _ _) (fun _ _ _ _ _ _ _ _ _ _ => Ev_some h0)
      · refine Ev_if (fun _ => ?_) (fun _ => ?_)
        · refine Ev_bd1 (low_ev _ _ (by decide)) (fun _ _ => ?_)
          refine Ev_bd1 (low_ev _ _ (by decide)) (fun _ _ => ?_)
          exact Ev_bd1 (a_quote hI _ _ _) (fun _ _ => Ev_some h0)
        · refine Ev_if (fun _ => ?_) (fun _ => ?_)
          · refine Ev_bd1 (low_ev _ _ (by decide)) (fun _ _ => ?_)
            refine Ev_bd1 (low_ev _ _ (by decide)) (fun _ _ => ?_)
            exact Ev_bd1 (a_orderProperty hI _ _) (fun _ _ => Ev_some h0)
          · refine Ev_if (fun _ => ?_) (fun _ => ?_)
            · refine Ev_bd1 (low_ev _ _ (by decide)) (fun _ _ => ?_)
              refine Ev_bd1 (low_ev _ _ (by decide)) (fun _ _ => ?_)
              exact Ev_bd1 (a_receipt hI _ _) (fun _ _ => Ev_some h0)
            · refine Ev_if (fun _ => ?_) (fun _ => ?_)
              · obtain ⟨r, e, hr, -⟩ := a_meanAge (imT := imT) (imdP := imdP) (indP := indP) (imdS := imdS) (imdB := imdB) (imdO := imdO) (imdR := imdR) (imdA := imdA) (indA := indA) hI
                rw [e, bd1_s]
                unfold gn
                rw [if_pos (age8 hr)]
                exact Ev_some h0
              · exact Ev_bd2 (a_errorPosition h0) (fun _ _ h1 => Ev_bd2 (a_errorKind h1) (fun _ _ h2 => Ev_some h2))
end
