/-! an hour, on both sides -/
theorem sumR_le2 {f : Int → Int} {c : Int} {n : Nat} (h : ∀ j : Int, 0 ≤ j → j < n → 0 ≤ f j ∧ f j ≤ c) : 0 ≤ sumR f n 0 ∧ sumR f n 0 ≤ c * n := sumR_le (fun j a b => h j a (by omega))
/-- what the melting of the silo s leaves -/
theorem melt_one {T : Int} {v v' : VI} {s h : Int} (hI : IS T v) (hh : 0 ≤ h ∧ h ≤ 45) (h0 : 0 ≤ s) (h1 : s < v 1880) (hm : v (52 + s) + 6000 ≤ 6000 * T) (hC : CmpI (mltV v s h (v (47 + s)).toNat) s (v (47 + s)).toNat 0 v') : IS T v' ∧ (∀ j : Int, ¬ (47 ≤ j ∧ j < 57) → ¬ (57 ≤ j ∧ j < 507) → j ≠ 1878 → v' j = v j) ∧ (∀ s' : Int, 0 ≤ s' → s' < 5 → s' ≠ s → v' (52 + s') = v (52 + s')) ∧ v' 1878 - v 1878 = v' (52 + s) - v (52 + s) ∧ (0 ≤ v' 1878 - v 1878 ∧ v' 1878 - v 1878 ≤ 6000) ∧ blocksF v' ≤ blocksF v := by
  have hb := hI.1
  have hr := hI.2.2.1 s h0 (by omega)
  have hz := hI.sz h0 (show s < 5 by omega)
  have hr2 : (0 ≤ v (37 + s) ∧ v (37 + s) ≤ 3) ∧ 0 ≤ v (42 + s) ∧ v (42 + s) ≤ 100 := ⟨hr.2.1, hr.2.2.1⟩
  obtain ⟨n, hn⟩ : ∃ n : Nat, v (47 + s) = n := ⟨(v (47 + s)).toNat, by omega⟩
  have hn2 : (v (47 + s)).toNat = n := by omega
  rw [hn2] at hC
  have hlk : ∀ k : Int, 0 ≤ k → k < n → 0 ≤ lossK v s h k ∧ lossK v s h k ≤ v (207 + (30 * s + k)) := fun k k0 k1 => by
    have hbk := hI.blk h0 (show s < 5 by omega) k0 (show k < v (47 + s) by omega)
    exact lossK_b hr2 (by omega) (by omega) hh.1 hh.2
  have hsum : 0 ≤ sumR (lossK v s h) n 0 ∧ sumR (lossK v s h) n 0 ≤ 200 * n := sumR_le2 (fun k k0 k1 => by
    have hbk := hI.blk h0 (show s < 5 by omega) k0 (show k < v (47 + s) by omega)
    have := hlk k k0 k1
    omega)
  obtain ⟨C1, -, C3, C4⟩ := hC
  have hsv := svC_le (mltV v s h n) s n
  have o : ∀ j : Int, j ≠ 47 + s → ¬ (57 + 30 * s ≤ j ∧ j < 57 + 30 * s + 30) → ¬ (207 + 30 * s ≤ j ∧ j < 207 + 30 * s + 30) → ¬ (357 + 30 * s ≤ j ∧ j < 357 + 30 * s + 30) → j ≠ 52 + s → j ≠ 1878 → v' j = v j := fun j a1 a2 a3 a4 a5 a6 => by
    rw [C4 j a1 a2 a3 a4, mltV_out v (by omega) a5 a6]
  have e47 : v' (47 + s) = svC (mltV v s h n) s n := by
    rw [C1]
    show ((0 : Nat) : Int) + (svC (mltV v s h n) s n - 0) = _
    omega
  have e52 : v' (52 + s) = v (52 + s) + sumR (lossK v s h) n 0 := by
    rw [C4 _ (by omega) (by omega) (by omega) (by omega)]
    unfold mltV; rw [if_neg (by omega), if_pos rfl]
  have e78 : v' 1878 = v 1878 + sumR (lossK v s h) n 0 := by
    rw [C4 _ (by omega) (by omega) (by omega) (by omega)]
    unfold mltV; rw [if_neg (by omega), if_neg (by omega), if_pos rfl]
  have e1m : ∀ j : Nat, j < n → mltV v s h n (207 + (30 * s + j)) = v (207 + (30 * s + j)) - lossK v s h j := fun j hj => by
    unfold mltV
    rw [if_pos (by omega), show 207 + (30 * s + (j : Int)) - (207 + 30 * s) = j by omega]
  refine ⟨⟨by rw [o 1880 (by omega) (by omega) (by omega) (by omega) (by omega) (by omega)]; exact hb, by rw [o 1887 (by omega) (by omega) (by omega) (by omega) (by omega) (by omega), o 1875 (by omega) (by omega) (by omega) (by omega) (by omega) (by omega)]; exact hI.2.1, fun s' q0 q1 => ?_, fun s' k q0 q1 q2 q3 => ?_⟩, fun j a1 a2 a3 => o j (by omega) (by omega) (by omega) (by omega) (by omega) a3, fun s' q0 q1 q2 => o _ (by omega) (by omega) (by omega) (by omega) (by omega) (by omega), by omega, by omega, ?_⟩
  · have g := hI.2.2.1 s' q0 q1
    rw [o (32 + s') (by omega) (by omega) (by omega) (by omega) (by omega) (by omega), o (37 + s') (by omega) (by omega) (by omega) (by omega) (by omega) (by omega), o (42 + s') (by omega) (by omega) (by omega) (by omega) (by omega) (by omega), o 1880 (by omega) (by omega) (by omega) (by omega) (by omega) (by omega)]
    by_cases c : s' = s
    · subst c
      rw [e47, e52]; omega
    · rw [o (47 + s') (by omega) (by omega) (by omega) (by omega) (by omega) (by omega), o (52 + s') (by omega) (by omega) (by omega) (by omega) (by omega) (by omega)]
      exact g
  · rw [o 1887 (by omega) (by omega) (by omega) (by omega) (by omega) (by omega), o 1875 (by omega) (by omega) (by omega) (by omega) (by omega) (by omega)]
    by_cases c : s' = s
    · subst c
      rw [e47] at q3
      obtain ⟨j, j1, j2, j3⟩ := svC_onto (mltV v s' h n) s' n k q2 q3
      have g := C3 j (Nat.zero_le _) j1 j2
      have e0 : svC (mltV v s' h n) s' 0 = 0 := rfl
      rw [e0, j3, show 30 * s' + (((0 : Nat) : Int) + (k - 0)) = 30 * s' + k by omega] at g
      have gb := hI.blk q0 q1 (show 0 ≤ (j : Int) by omega) (show (j : Int) < v (47 + s') by omega)
      have gl := hlk j (by omega) (by omega)
      rw [e1m j j1] at j2
      rw [g.1, g.2.1, g.2.2, e1m j j1, mltV_out v (by omega) (by omega) (by omega), mltV_out v (by omega) (by omega) (by omega)]
      omega
    · rw [o (47 + s') (by omega) (by omega) (by omega) (by omega) (by omega) (by omega)] at q3
      have hz' := hI.sz q0 q1
      rw [o (57 + (30 * s' + k)) (by omega) (by omega) (by omega) (by omega) (by omega) (by omega), o (207 + (30 * s' + k)) (by omega) (by omega) (by omega) (by omega) (by omega) (by omega), o (357 + (30 * s' + k)) (by omega) (by omega) (by omega) (by omega) (by omega) (by omega)]
      exact hI.blk q0 q1 q2 q3
  · unfold blocksF
    rw [o 1880 (by omega) (by omega) (by omega) (by omega) (by omega) (by omega)]
    have e : sumR (fun s' => v' (47 + s')) (v 1880).toNat 0 = sumR (fun s' => if s' = s then v' (47 + s) else v (47 + s')) (v 1880).toNat 0 := sumR_cg fun j q1 q2 => by
      show v' (47 + j) = if j = s then v' (47 + s) else v (47 + j)
      by_cases c : j = s
      · rw [if_pos c, c]
      · rw [if_neg c]; exact o _ (by omega) (by omega) (by omega) (by omega) (by omega) (by omega)
    rw [e, sumR_one (f := fun s' => v (47 + s')) (s := s) (c := v' (47 + s) - v (47 + s)) h0 (by omega) (fun j hj => if_neg hj) (by show (if s = s then v' (47 + s) else v (47 + s)) = _; rw [if_pos rfl]; omega)]
    omega
/-- the melting of the silos from s on: one numbers' world behind both sides -/
theorem melt_pair {mM : Mem} {sv tv : Nat → Int64} {T1 h : Int} : ∀ (n fu fu2 : Nat) (s : Int) (v : VI) (mS : Mem) (nM : MemL), 0 ≤ s → s + n = v 1880 → n < fu → n < fu2 → MR nM v sv tv → RS mS v → IS T1 v → (∀ s' : Int, s ≤ s' → s' < 5 → v (52 + s') + 6000 ≤ 6000 * T1) → IP v → h = heatF v →
    ∃ v' mS' nM', f_X9_melt_L2 mM fu (zI s) nM = some nM' ∧ f_X6_melt_L2 (zI h) fu2 (zI s) mS = some mS' ∧ MR nM' v' sv tv ∧ RS mS' v' ∧ IS T1 v' ∧ (∀ j : Int, ¬ (47 ≤ j ∧ j < 57) → ¬ (57 ≤ j ∧ j < 507) → j ≠ 1878 → v' j = v j) ∧ v' 1878 - (v' 52 + v' 53 + v' 54 + v' 55 + v' 56) = v 1878 - (v 52 + v 53 + v 54 + v 55 + v 56) ∧ (∀ s' : Int, 0 ≤ s' → s' < 5 → v (52 + s') ≤ v' (52 + s')) ∧ blocksF v' ≤ blocksF v ∧ storedF v' + v' 1878 = storedF v + v 1878 := by
  intro n
  induction n with
  | zero =>
    intro fu fu2 s v mS nM s0 sn hf hf2 hM hS hI hm hP hh
    obtain ⟨fu, rfl⟩ : ∃ m, fu = m + 1 := ⟨fu - 1, by omega⟩
    obtain ⟨fu2, rfl⟩ : ∃ m, fu2 = m + 1 := ⟨fu2 - 1, by omega⟩
    have hb := hI.1
    refine ⟨v, mS, nM, ?_, ?_, hM, hS, hI, fun _ _ _ _ => rfl, rfl, fun _ _ _ => Int.le_refl _, Int.le_refl _, rfl⟩
    · simp (disch := omega) only [f_X9_melt_L2, z_c0, z_c1880, z_add, z_sub, z_neg, y_neg, z_mul, z_div, z_l, y_i, y_add, y_sub, y_mul, y_div, z_lt, z_le, z_eq, y_c1, y_c2, y_c3, y_c4, y_c5, z_gi, bd1_s, bd2_s, mul30, z_ofNat, lt_eq, hM.rd]
      rw [if_pos (by omega)]
    · simp (disch := omega) only [f_X6_melt_L2, z_c1, z_add, z_sub, z_neg, y_neg, z_mul, z_div, z_l, y_i, y_add, y_sub, y_mul, y_div, z_lt, z_le, z_eq, y_c1, y_c2, y_c3, y_c4, y_c5, z_gi, bd1_s, bd2_s, mul30, z_ofNat, lt_eq, hS.1]
      rw [if_pos (by omega)]
  | succ n ih =>
    intro fu fu2 s v mS nM s0 sn hf hf2 hM hS hI hm hP hh
    obtain ⟨fu, rfl⟩ : ∃ m, fu = m + 1 := ⟨fu - 1, by omega⟩
    obtain ⟨fu2, rfl⟩ : ∃ m, fu2 = m + 1 := ⟨fu2 - 1, by omega⟩
    have hb := hI.1
    have ht : 0 ≤ v 1875 ∧ v 1875 ≤ 10049 := by have := hI.2.1; omega
    have hr := hI.2.2.1 s s0 (by omega)
    have hz := hI.sz s0 (show s < 5 by omega)
    have hhb := (m_heat (mM := mM) hM ht hP.2.2.2.2.2.2.2.2).2
    have en : ((v (47 + s)).toNat : Int) = v (47 + s) := by omega
    obtain ⟨nM1, v1, e1, hM1, hC⟩ := m_melt18 (mM := mM) (sv := sv) (tv := tv) (b := (v (47 + s)).toNat) ht hP.2.2.2.2.2.2.2.2 ⟨hr.2.1, hr.2.2.1⟩ s0 (show s < 5 by omega) (by omega) (by omega) (fun j hj => by
      have := hI.blk s0 (show s < 5 by omega) (show 0 ≤ (j : Int) by omega) (show (j : Int) < v (47 + s) by omega); omega) (f_X9_melt_L2 mM fu) (v (47 + s)).toNat 0 fuel nM (by omega) (fuel_gt (by omega)) (hM.cg fun j _ _ => by
        unfold mltV
        rw [if_neg (by omega)]
        by_cases c1 : j = 52 + s
        · rw [if_pos c1]; show v j + 0 = v j; omega
        · rw [if_neg c1]
          by_cases c2 : j = 1878
          · rw [if_pos c2]; show v j + 0 = v j; omega
          · rw [if_neg c2])
    rw [← hh] at hC hhb
    obtain ⟨mS1, e2, hS1⟩ := s_meltSilo hS hI hhb s0 (show s < 5 by omega) hC
    obtain ⟨g1, g2, g3, g4, g5, g6⟩ := melt_one hI hhb s0 (by omega) (hm s (Int.le_refl _) (by omega)) hC
    have e80 : v1 1880 = v 1880 := g2 1880 (by omega) (by omega) (by omega)
    have hP1 : IP v1 := hP.cg fun j a1 a2 => g2 j (by omega) (by omega) (by omega)
    have hh1 : h = heatF v1 := by
      rw [hh]
      exact (heatF_cg (g2 1875 (by omega) (by omega) (by omega)) (fun k a1 a2 => g2 _ (by omega) (by omega) (by omega))).symm
    have gc := melt_cons hI s0 (by omega) hC
    obtain ⟨v', mS', nM', k1, k2, k3, k4, k5, k6, k7, k8, k9, k10⟩ := ih fu fu2 (s + 1) v1 mS1 nM1 (by omega) (by omega) (by omega) (by omega) hM1 hS1 g1 (fun s' q0 q1 => by rw [g3 s' (by omega) q1 (by omega)]; exact hm s' (by omega) q1) hP1 hh1
    refine ⟨v', mS', nM', ?_, ?_, k3, k4, k5, fun j a1 a2 a3 => (k6 j a1 a2 a3).trans (g2 j a1 a2 a3), ?_, fun s' q0 q1 => ?_, by omega, by omega⟩
    · simp (disch := omega) only [f_X9_melt_L2, z_c0, z_c1880, z_add, z_sub, z_neg, y_neg, z_mul, z_div, z_l, y_i, y_add, y_sub, y_mul, y_div, z_lt, z_le, z_eq, y_c1, y_c2, y_c3, y_c4, y_c5, z_gi, bd1_s, bd2_s, mul30, z_ofNat, hM.rd]
      rw [if_neg (by omega)]
      exact e1.trans k1
    · simp (disch := omega) only [f_X6_melt_L2, z_c1, z_add, z_sub, z_neg, y_neg, z_mul, z_div, z_l, y_i, y_add, y_sub, y_mul, y_div, z_lt, z_le, z_eq, y_c1, y_c2, y_c3, y_c4, y_c5, z_gi, bd1_s, bd2_s, mul30, z_ofNat, hS.1]
      rw [if_neg (by omega), e2, bd1_s, lt_eq]
      exact k2
    · have a0 := g3 0 (by omega) (by omega)
      have a1 := g3 1 (by omega) (by omega)
      have a2 := g3 2 (by omega) (by omega)
      have a3 := g3 3 (by omega) (by omega)
      have a4 := g3 4 (by omega) (by omega)
      simp only [Int.reduceAdd] at a0 a1 a2 a3 a4
      have hsc : s = 0 ∨ s = 1 ∨ s = 2 ∨ s = 3 ∨ s = 4 := by omega
      rcases hsc with rfl | rfl | rfl | rfl | rfl
      all_goals simp only [Int.reduceAdd] at g4
      all_goals omega
    · have := k8 s' q0 q1
      by_cases c : s' = s
      · subst c; omega
      · rw [g3 s' q0 q1 c] at this; exact this
/-- the plant at rest; its time is v 1875 -/
def Pl (v : VI) : Prop := IP v ∧ IB (v 1875) v ∧ IOr v ∧ IA v ∧ IS (v 1875) v ∧ v 1875 ≤ 10048 ∧ (0 ≤ v 1885 ∧ v 1885 ≤ 16) ∧ v 1878 = v 52 + v 53 + v 54 + v 55 + v 56 ∧ (0 ≤ v 1876 ∧ v 1876 ≤ 2400 * v 1875) ∧ (0 ≤ v 1877 ∧ v 1877 ≤ 30000 * v 1875) ∧ (0 ≤ v 1879 ∧ v 1879 ≤ 12 * v 1875)
theorem IS.mono {T T' : Int} {v : VI} (h : IS T v) (hT : T ≤ T') (h2 : T' ≤ 10049) : IS T' v := by
  obtain ⟨h1, h3, h4, h5⟩ := h
  refine ⟨h1, by omega, fun s q0 q1 => ?_, h5⟩
  have := h4 s q0 q1
  omega
theorem expV_IO {v : VI} (hI : IOr v) : IOr (expV v 0) := by
  have hb := hI.1
  have out : ∀ {j : Int}, ¬ (1131 ≤ j ∧ j < 1331) → ¬ (1531 ≤ j ∧ j < 1731) → expV v 0 j = v j := fun a b => expV_out (by omega) (by omega)
  refine ⟨by rw [out (by omega) (by omega)]; exact hb, ?_, fun o o0 o1 => ?_⟩
  · have h20 := hI.2.1
    unfold openC at h20 ⊢
    rw [out (by omega) (by omega)]
    have := cntZ_sub (f := stF v) (g := stF (expV v 0)) (v 1882).toNat (fun j hj hz => by
      have hz' : expV v 0 (1531 + j) = 0 := hz
      show v (1531 + j) = 0
      unfold expV at hz'
      rw [if_neg (by omega)] at hz'
      by_cases c : 1531 + 0 ≤ 1531 + (j : Int) ∧ 1531 + (j : Int) < 1531 + v 1882 ∧ v (1531 + j) = 0 ∧ v (1531 + (j : Int) - 400) = 1
      · exact c.2.2.1
      · rw [if_neg c] at hz'; exact hz')
    omega
  · have g := hI.2.2 o o0 o1
    rw [out (j := 931 + o) (by omega) (by omega), out (j := 1331 + o) (by omega) (by omega), out (j := 531 + o) (by omega) (by omega), out (j := 731 + o) (by omega) (by omega), out (j := 1882) (by omega) (by omega), out (j := 1881) (by omega) (by omega)]
    have e1 : expV v 0 (1131 + o) = if o < v 1882 ∧ v (1531 + o) = 0 then v (1131 + o) - 1 else v (1131 + o) := by
      unfold expV
      rw [show 1131 + o + 400 = 1531 + o by omega]
      by_cases c : o < v 1882 ∧ v (1531 + o) = 0
      · rw [if_pos c, if_pos (by omega)]
      · rw [if_neg c, if_neg (by omega), if_neg (by omega)]
    have e2 : expV v 0 (1531 + o) = if o < v 1882 ∧ v (1531 + o) = 0 ∧ v (1131 + o) = 1 then 2 else v (1531 + o) := by
      unfold expV
      rw [show 1531 + o - 400 = 1131 + o by omega, if_neg (by omega)]
      by_cases c : o < v 1882 ∧ v (1531 + o) = 0 ∧ v (1131 + o) = 1
      · rw [if_pos c, if_pos (by omega)]
      · rw [if_neg c, if_neg (by omega)]
    rw [e1, e2]
    by_cases c : o < v 1882 ∧ v (1531 + o) = 0
    · have g2 := g.2.2.2.2.2 c.1
      have g3 := g2.2.2 c.2
      rw [if_pos c]
      by_cases d : o < v 1882 ∧ v (1531 + o) = 0 ∧ v (1131 + o) = 1
      · rw [if_pos d]; omega
      · rw [if_neg d]; omega
    · rw [if_neg c, if_neg (by omega)]
      exact g
theorem m_exp2 {mM : Mem} {v : VI} {sv tv : Nat → Int64} (hI : IOr v) : ∀ (n fu : Nat) (m : Int) (w : VI) (nM : MemL), 0 ≤ m → m + n = v 1882 → n < fu → MR nM w sv tv → (∀ j : Int, 0 ≤ j → j < 1888 → w j = if (1131 ≤ j ∧ j < 1131 + m) ∨ (1531 ≤ j ∧ j < 1531 + m) then expV v 0 j else v j) →
    Ev (f_X9_expire_L2 mM fu (zI m) nM) (fun nM' => MR nM' (expV v 0) sv tv) := by
  have hb := hI.1
  intro n
  induction n with
  | zero =>
    intro fu m w nM m0 mn hf hM hw
    obtain ⟨fu, rfl⟩ : ∃ m, fu = m + 1 := ⟨fu - 1, by omega⟩
    have h82 := hM.rd (a := 1882) (by omega) (by omega)
    rw [hw 1882 (by omega) (by omega), if_neg (by omega)] at h82
    simp (disch := omega) only [f_X9_expire_L2, z_c0, z_c1131, z_c1531, z_c1882, y_c0_, y_c1_, y_c2_, z_add, z_sub, z_neg, y_neg, z_mul, z_div, z_l, y_i, y_add, y_sub, y_mul, y_div, z_lt, z_le, z_eq, y_c1, y_c2, y_c3, y_c4, y_c5, z_gi, bd1_s, bd2_s, mul30, z_ofNat, lt_eq, h82]
    rw [if_pos (by omega)]
    refine Ev_some (hM.cg fun j j0 j1 => ?_)
    rw [hw j j0 j1]
    by_cases c : (1131 ≤ j ∧ j < 1131 + m) ∨ (1531 ≤ j ∧ j < 1531 + m)
    · rw [if_pos c]
    · rw [if_neg c]; exact expV_out (by omega) (by omega)
  | succ n ih =>
    intro fu m w nM m0 mn hf hM hw
    obtain ⟨fu, rfl⟩ : ∃ m, fu = m + 1 := ⟨fu - 1, by omega⟩
    have h82 := hM.rd (a := 1882) (by omega) (by omega)
    rw [hw 1882 (by omega) (by omega), if_neg (by omega)] at h82
    have hst := hM.rd (a := 1531 + m) (by omega) (by omega)
    rw [hw (1531 + m) (by omega) (by omega), if_neg (by omega)] at hst
    have hho := hM.rd (a := 1131 + m) (by omega) (by omega)
    rw [hw (1131 + m) (by omega) (by omega), if_neg (by omega)] at hho
    have g := hI.2.2 m m0 (by omega)
    have g2 := g.2.2.2.2.2 (by omega)
    have e1 : expV v 0 (1131 + m) = if v (1531 + m) = 0 then v (1131 + m) - 1 else v (1131 + m) := by
      unfold expV
      rw [show 1131 + m + 400 = 1531 + m by omega]
      by_cases c : v (1531 + m) = 0
      · rw [if_pos c, if_pos (by omega)]
      · rw [if_neg c, if_neg (by omega), if_neg (by omega)]
    have e2 : expV v 0 (1531 + m) = if v (1531 + m) = 0 ∧ v (1131 + m) = 1 then 2 else v (1531 + m) := by
      unfold expV
      rw [show 1531 + m - 400 = 1131 + m by omega, if_neg (by omega)]
      by_cases c : v (1531 + m) = 0 ∧ v (1131 + m) = 1
      · rw [if_pos c, if_pos (by omega)]
      · rw [if_neg c, if_neg (by omega)]
    have stepw : ∀ (w' : VI), (∀ j : Int, 0 ≤ j → j < 1888 → w' j = if j = 1131 + m then expV v 0 j else if j = 1531 + m then expV v 0 j else w j) → ∀ j : Int, 0 ≤ j → j < 1888 → w' j = if (1131 ≤ j ∧ j < 1131 + (m + 1)) ∨ (1531 ≤ j ∧ j < 1531 + (m + 1)) then expV v 0 j else v j := fun w' hw' j j0 j1 => by
      rw [hw' j j0 j1]
      by_cases c1 : j = 1131 + m
      · rw [if_pos c1, if_pos (by omega)]
      · rw [if_neg c1]
        by_cases c2 : j = 1531 + m
        · rw [if_pos c2, if_pos (by omega)]
        · rw [if_neg c2, hw j j0 j1]
          by_cases c3 : (1131 ≤ j ∧ j < 1131 + m) ∨ (1531 ≤ j ∧ j < 1531 + m)
          · rw [if_pos c3, if_pos (by omega)]
          · rw [if_neg c3, if_neg (by omega)]
    simp (disch := omega) only [f_X9_expire_L2, f_X9_expire_b77, f_X9_expire_b76, z_c0, z_c1, z_c1131, z_c1531, z_c1882, y_c0_, y_c1_, y_c2_, z_add, z_sub, z_neg, y_neg, z_mul, z_div, z_l, y_i, y_add, y_sub, y_mul, y_div, z_lt, z_le, z_eq, y_c1, y_c2, y_c3, y_c4, y_c5, z_gi, bd1_s, bd2_s, mul30, z_ofNat, h82, hst, hho]
    rw [if_neg (by omega)]
    by_cases c : v (1531 + m) = 0
    · rw [if_pos c]
      refine Ev_wr hM (by omega) (by omega) (fun nM hM => ?_)
      have hho2 := hM.rd (a := 1131 + m) (by omega) (by omega)
      rw [upV_same] at hho2
      have g3 := g2.2.2 c
      simp (disch := omega) only [z_gi, hho2, y_c3]
      by_cases d : v (1131 + m) - 1 = 0
      · rw [if_pos d]
        refine Ev_wr hM (by omega) (by omega) (fun nM hM => Ev_lt ?_)
        refine ih fu (m + 1) _ nM (by omega) (by omega) (by omega) hM (stepw _ fun j j0 j1 => ?_)
        unfold upV
        by_cases q1 : j = 1131 + m
        · rw [if_pos q1, if_neg (by omega), if_pos q1, q1, e1, if_pos c]
        · rw [if_neg q1]
          by_cases q2 : j = 1531 + m
          · rw [if_pos q2, if_pos q2, q2, e2, if_pos (show v (1531 + m) = 0 ∧ v (1131 + m) = 1 from ⟨c, by omega⟩)]; split <;> rfl
          · rw [if_neg q2, if_neg q2, if_neg q1]
      · rw [if_neg d]
        refine Ev_wr hM (by omega) (by omega) (fun nM hM => Ev_lt ?_)
        refine ih fu (m + 1) _ nM (by omega) (by omega) (by omega) hM (stepw _ fun j j0 j1 => ?_)
        unfold upV
        by_cases q1 : j = 1131 + m
        · rw [if_pos q1, if_neg (by omega), if_pos q1, q1, e1, if_pos c]
        · rw [if_neg q1]
          by_cases q2 : j = 1531 + m
          · rw [if_pos q2, if_pos q2, q2, e2, if_neg (show ¬ (v (1531 + m) = 0 ∧ v (1131 + m) = 1) by omega)]; split <;> exact c.symm
          · rw [if_neg q2, if_neg q2, if_neg q1]
    · rw [if_neg c]
      refine Ev_lt ?_
      refine ih fu (m + 1) w nM (by omega) (by omega) (by omega) hM (stepw _ fun j j0 j1 => ?_)
      by_cases q1 : j = 1131 + m
      · rw [if_pos q1, q1, e1, if_neg c, hw _ (by omega) (by omega), if_neg (by omega)]
      · rw [if_neg q1]
        by_cases q2 : j = 1531 + m
        · rw [if_pos q2, q2, e2, if_neg (by omega), hw _ (by omega) (by omega), if_neg (by omega)]
        · rw [if_neg q2]
theorem m_expire {mM : Mem} {nM : MemL} {v : VI} {sv tv : Nat → Int64} (hM : MR nM v sv tv) (hI : IOr v) : Ev (f_X9_expire mM nM) (fun nM' => MR nM' (expV v 0) sv tv) := by
  have hb := hI.1
  unfold f_X9_expire
  rw [z_c0]
  exact m_exp2 hI (v 1882).toNat fuel 0 v nM (by omega) (by omega) (fuel_gt (by omega)) hM (fun j _ _ => by rw [if_neg (by omega)])
