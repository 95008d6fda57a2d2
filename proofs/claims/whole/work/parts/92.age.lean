/-! the mean age -/
theorem agesF_b {v : VI} {T : Int} (hI : IS T v) : 0 ≤ agesF v ∧ agesF v ≤ 2000000 := by
  have hb := hI.1
  have h5 := hI.2.2.2
  have ht := hI.2.1
  have hr : ∀ s : Int, 0 ≤ s → s < v 1880 → 0 ≤ rowSum v 357 s ∧ rowSum v 357 s ≤ 301470 := fun s q0 q1 => by
    have hz := hI.sz (s := s) q0 (by omega)
    have hl := sumR_le (f := fun j => v (357 + (30 * s + j))) (c := 10049) (n := (v (47 + s)).toNat) (s := 0) (fun j j0 j1 => by
      have := h5 s j q0 (by omega) j0 (by omega)
      show 0 ≤ v (357 + (30 * s + j)) ∧ v (357 + (30 * s + j)) ≤ 10049
      omega)
    unfold rowSum
    omega
  have hl := sumR_le (f := fun s => rowSum v 357 s) (c := 301470) (n := (v 1880).toNat) (s := 0) (fun s q0 q1 => hr s q0 (by omega))
  unfold agesF
  omega
theorem m_ages26 {mM : Mem} {nM : MemL} {sv tv : Nat → Int64} {T : Int} {v : VI} (hM : MR nM v sv tv) (hI : IS T v) {s : Int} (h1 : 0 ≤ s) (h2 : s < v 1880) (kk : Int64 → Int32 → Option (UInt64 × Mem)) : ∀ (n fu : Nat) (k A : Int), 0 ≤ k → k + n = v (47 + s) → n < fu →
    f_X9_meanAge_L26 kk (zI s) mM nM fu (zL A) (zI k) = kk (zL (A + sumR (fun j => v (357 + (30 * s + j))) n k)) (zI (s + 1)) := by
  have hb := hI.1
  have hz := hI.sz (s := s) (by omega) (by omega)
  intro n
  induction n with
  | zero =>
    intro fu k A hk hn hf
    obtain ⟨fu, rfl⟩ : ∃ m, fu = m + 1 := ⟨fu - 1, by omega⟩
    simp (disch := omega) only [f_X9_meanAge_L26, z_c0, z_c1, z_c30, z_c47, z_c357, z_add, z_sub, z_neg, y_neg, z_mul, z_div, z_l, y_i, y_add, y_sub, y_mul, y_div, z_lt, z_le, z_eq, y_c1, y_c2, y_c3, y_c4, y_c5, z_gi, bd1_s, bd2_s, mul30, z_ofNat, lt_eq, sumR, Int.add_zero, hM.rd]
    rw [if_pos (by omega)]
  | succ n ih =>
    intro fu k A hk hn hf
    obtain ⟨fu, rfl⟩ : ∃ m, fu = m + 1 := ⟨fu - 1, by omega⟩
    have hi := ih fu (k + 1) (A + v (357 + (30 * s + k))) (by omega) (by omega) (by omega)
    simp (disch := omega) only [f_X9_meanAge_L26, z_c0, z_c1, z_c30, z_c47, z_c357, z_add, z_sub, z_neg, y_neg, z_mul, z_div, z_l, y_i, y_add, y_sub, y_mul, y_div, z_lt, z_le, z_eq, y_c1, y_c2, y_c3, y_c4, y_c5, z_gi, bd1_s, bd2_s, mul30, z_ofNat, lt_eq, sumR, hM.rd, Int.add_assoc] at hi ⊢
    rw [if_neg (by omega), hi]
theorem m_ages9 {mM : Mem} {nM : MemL} {sv tv : Nat → Int64} {T : Int} {v : VI} (hM : MR nM v sv tv) (hI : IS T v) : ∀ (n fu : Nat) (s A : Int), 0 ≤ s → s + n = v 1880 → n < fu →
    f_X9_meanAge_L9 mM nM fu (zL A) (zI s) = (if zI (blocksF v) = 0 then f_X9_meanAge_b91 FP.dconst0 mM nM else gn (FP.ddiv (FP.l2d (zL (A + sumR (fun s => rowSum v 357 s) n s))) (FP.i2d (zI (blocksF v)))) (f_X9_meanAge_b91 (FP.ddiv (FP.l2d (zL (A + sumR (fun s => rowSum v 357 s) n s))) (FP.i2d (zI (blocksF v)))) mM nM)) := by
  have hb := hI.1
  have eB := m_blocks (mM := mM) hM hI
  have rd := hM.rd (a := 1880) (by omega) (by omega)
  have hc : ∀ s : Int, 0 ≤ s → s ≤ v 1880 → (0 ≤ lg_cmp ((zI s).toInt64) (nM 0 (1880 : Int32).toNatClampNeg) ↔ v 1880 ≤ s) := fun s q0 q1 => by
    rw [lg_cmp_ge, z_c1880, rd, z_l (by omega) (by omega), Int64.le_iff_toInt_le, y_toInt (by omega) (by omega), y_toInt (by omega) (by omega)]
  intro n
  induction n with
  | zero =>
    intro fu s A hk hn hf
    obtain ⟨fu, rfl⟩ : ∃ m, fu = m + 1 := ⟨fu - 1, by omega⟩
    show (if 0 ≤ lg_cmp ((zI s).toInt64) (nM 0 (1880 : Int32).toNatClampNeg) then bd1 (f_X9_blocks mM nM) _ else _) = _
    rw [if_pos ((hc s hk (by omega)).mpr (by omega)), eB]
    show (if zI (blocksF v) = 0 then _ else gn (FP.ddiv (FP.l2d (zL A)) _) _) = _
    rw [show A + sumR (fun s => rowSum v 357 s) 0 s = A from Int.add_zero A]
  | succ n ih =>
    intro fu s A hk hn hf
    obtain ⟨fu, rfl⟩ : ∃ m, fu = m + 1 := ⟨fu - 1, by omega⟩
    have hz := hI.sz (s := s) (by omega) (by omega)
    have hi := m_ages26 (mM := mM) hM hI (s := s) hk (by omega) (f_X9_meanAge_L9 mM nM fu) (v (47 + s)).toNat fuel 0 A (by omega) (by omega) (fuel_gt (by omega))
    have hj := ih fu (s + 1) (A + rowSum v 357 s) (by omega) (by omega) (by omega)
    show (if 0 ≤ lg_cmp ((zI s).toInt64) (nM 0 (1880 : Int32).toNatClampNeg) then _ else f_X9_meanAge_L26 (f_X9_meanAge_L9 mM nM fu) (zI s) mM nM fuel (zL A) (0 : Int32)) = _
    rw [if_neg (fun q => by have := (hc s hk (by omega)).mp q; omega), z_c0, hi]
    refine hj.trans ?_
    rw [show A + sumR (fun s => rowSum v 357 s) (n + 1) s = A + rowSum v 357 s + sumR (fun s => rowSum v 357 s) n (s + 1) from (Int.add_assoc _ _ _).symm]
    rfl
theorem g_meanAge {mT : Mem} {mP : Mem} {nP : MemL} {mS : Mem} {mB : Mem} {mO : Mem} {mR : Mem} {mA : Mem} {nA : MemL} {mH : Mem} {hs : Nat → PSt} {mM : Mem} {nM : MemL} {imdP : Mem} {indP : MemL} {imdS imdB imdO imdR imdA : Mem} {indA : MemL} (hI : LI mT mP nP mS mB mO mR mA nA mH hs mM nM) :
    ∃ (r' rM : UInt64) (mM' : Mem), f_X8_meanAge mT imdP indP imdS imdB imdO imdR imdA indA mP nP mS mB mO mR mA nA mH hs = some r' ∧ f_X9_meanAge mM nM = some (rM, mM') ∧ mM' 8 0 = 0 ∧ r' = rM ∧ FP.dcmp rM rM = some .eq ∧ LI mT mP nP mS mB mO mR mA nA mH hs mM' nM := by
  obtain ⟨v, c, H, n, t, h, R, hH, hM, hT, hm⟩ := hI
  have hIS := h.1.1.2.2.2.2.1
  have hbl := blocksF_b hIS
  have hag := agesF_b hIS
  have hb := hIS.1
  have R0 := R
  obtain ⟨wr, w0, w1, R⟩ := R
  obtain ⟨sv, tv, hMR, hHM⟩ := hM.2
  have e1 := s_blocks R.2.1 hIS
  have e2 := s_sumOfAges R.2.1 hIS
  have e3 := m_ages9 (mM := wrI mM 8 (fun _ => (0 : Int32))) hMR hIS (v 1880).toNat fuel 0 0 (by omega) (by omega) (fuel_gt (by omega))
  have hLI : LI mT mP nP mS mB mO mR mA nA mH hs (wrI mM 8 (fun _ => (0 : Int32))) nM := ⟨v, c, H, n, t, h, R0, hH, hM.keep (wrI_ne _ _ (by decide)), hT, TM_sm hm (fun j _ _ j8 => wrI_ne _ _ j8)⟩
  have e9 : f_X9_meanAge mM nM = f_X9_meanAge_L9 (wrI mM 8 (fun _ => (0 : Int32))) nM fuel (zL 0) (zI 0) := rfl
  have es : (0 : Int) + sumR (fun s => rowSum v 357 s) (v 1880).toNat 0 = agesF v := Int.zero_add _
  rw [es] at e3
  have e8 : f_X8_meanAge mT imdP indP imdS imdB imdO imdR imdA indA mP nP mS mB mO mR mA nA mH hs = (if zI (blocksF v) ≤ 0 then some FP.dconst0 else gn (FP.ddiv (FP.i2d (zI (agesF v))) (FP.i2d (zI (blocksF v)))) (some (FP.ddiv (FP.i2d (zI (agesF v))) (FP.i2d (zI (blocksF v)))))) := by
    unfold f_X8_meanAge
    rw [e1, bd1_s]
    by_cases q : zI (blocksF v) ≤ 0
    · rw [if_pos q, if_pos q]; rfl
    · rw [if_neg q, if_neg q, e2, bd1_s]; rfl
  have z0 : (zI (blocksF v) ≤ 0) = (blocksF v ≤ 0) := by rw [show (0 : Int32) = zI 0 from rfl]; exact z_le (by omega) (by omega) (by omega) (by omega)
  have z1 : (zI (blocksF v) = 0) = (blocksF v = 0) := by rw [show (0 : Int32) = zI 0 from rfl]; exact z_eq (by omega) (by omega) (by omega) (by omega)
  by_cases q : blocksF v = 0
  · rw [if_pos (by rw [z0]; omega)] at e8
    rw [if_pos (by rw [z1]; exact q)] at e3
    exact ⟨FP.dconst0, FP.dconst0, wrI mM 8 (fun _ => (0 : Int32)), e8, e9.trans e3, wrI_at _ _ _ _, rfl, age_zero, hLI⟩
  · rw [if_neg (by rw [z0]; omega)] at e8
    rw [if_neg (by rw [z1]; exact q)] at e3
    have ei : FP.l2d (zL (agesF v)) = FP.i2d (zI (agesF v)) := age_il (by rw [z_toInt (by omega) (by omega), y_toInt (by omega) (by omega)])
    rw [ei] at e3
    have hn : (zI (blocksF v)).toInt ≠ 0 := by rw [z_toInt (by omega) (by omega)]; exact q
    have g : ∀ {α : Type} (x : Option α), gn (FP.ddiv (FP.i2d (zI (agesF v))) (FP.i2d (zI (blocksF v)))) x = x := fun x => by unfold gn; rw [if_pos (age_n64 _ _ hn)]
    rw [g] at e8 e3
    exact ⟨_, _, wrI mM 8 (fun _ => (0 : Int32)), e8, e9.trans e3, wrI_at _ _ _ _, rfl, age_self _ _ hn, hLI⟩
