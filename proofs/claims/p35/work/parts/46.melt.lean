/-! melting, on both sides -/
theorem lossC_b {v : VI} {s mass top heat : Int} (hb : (0 ≤ v (37 + s) ∧ v (37 + s) ≤ 3) ∧ 0 ≤ v (42 + s) ∧ v (42 + s) ≤ 100) (h3 : 0 ≤ mass) (h4 : mass ≤ 200) (h5 : 0 ≤ heat) (h6 : heat ≤ 45) : 0 ≤ lossC v s mass top heat ∧ lossC v s mass top heat ≤ 225 := by
  have hm1 := mul_b h3 h4 hb.2.1 hb.2.2
  have hm2 := mul_b h5 h6 hb.2.1 hb.2.2
  unfold lossC
  repeat' split
  all_goals omega
def lossK (v : VI) (s h k : Int) : Int := if lossC v s (v (207 + (30 * s + k))) (if k = v (47 + s) - 1 then 1 else 0) h < v (207 + (30 * s + k)) then lossC v s (v (207 + (30 * s + k))) (if k = v (47 + s) - 1 then 1 else 0) h else v (207 + (30 * s + k))
theorem lossK_b {v : VI} {s h k : Int} (hb : (0 ≤ v (37 + s) ∧ v (37 + s) ≤ 3) ∧ 0 ≤ v (42 + s) ∧ v (42 + s) ≤ 100) (h3 : 0 ≤ v (207 + (30 * s + k))) (h4 : v (207 + (30 * s + k)) ≤ 200) (h5 : 0 ≤ h) (h6 : h ≤ 45) : 0 ≤ lossK v s h k ∧ lossK v s h k ≤ v (207 + (30 * s + k)) := by
  have := lossC_b (top := if k = v (47 + s) - 1 then 1 else 0) hb h3 h4 h5 h6
  unfold lossK
  generalize lossC v s (v (207 + (30 * s + k))) (if k = v (47 + s) - 1 then 1 else 0) h = L at this ⊢
  split <;> omega
def hourF (v : VI) : Int := v 1875 - v 1875 / 24 * 24
def heatF (v : VI) : Int := if 0 ≤ v (8 + hourF v) then v (8 + hourF v) else 0
theorem heatF_cg {v v' : VI} (e1 : v' 1875 = v 1875) (e2 : ∀ h : Int, 0 ≤ h → h < 24 → v' (8 + h) = v (8 + h)) : heatF v' = heatF v := by
  have h1 : 0 ≤ hourF v ∧ hourF v < 24 := by unfold hourF; omega
  have h2 : hourF v' = hourF v := by unfold hourF; rw [e1]
  unfold heatF
  rw [h2, e2 _ h1.1 h1.2]
theorem m_heat {mM : Mem} {nM : MemL} {sv tv : Nat → Int64} {v : VI} (hM : MR nM v sv tv) (ht : 0 ≤ v 1875 ∧ v 1875 ≤ 10049) (htp : ∀ h : Int, 0 ≤ h → h < 24 → -20 ≤ v (8 + h) ∧ v (8 + h) ≤ 45) : f_X9_heat mM nM = some (zL (heatF v)) ∧ 0 ≤ heatF v ∧ heatF v ≤ 45 := by
  have h1 : 0 ≤ hourF v ∧ hourF v < 24 := by unfold hourF; omega
  have h2 := htp _ h1.1 h1.2
  refine ⟨?_, ?_⟩
  · simp (disch := omega) only [f_X9_heat, z_c0, z_c8, z_c1875, y_c0_, y_c24_, z_add, z_sub, z_neg, y_neg, z_mul, z_div, z_l, y_i, y_add, y_sub, y_mul, y_div, z_lt, z_le, z_eq, y_c1, y_c2, y_c3, y_c4, y_c5, z_gi, bd1_s, bd2_s, mul30, z_ofNat, lt_eq, hM.rd]
    rw [show v 1875 - v 1875 / 24 * 24 = hourF v from rfl]
    simp (disch := omega) only [z_gi, hM.rd, y_c1]
    unfold heatF
    split <;> rfl
  · unfold heatF; split <;> omega
theorem m_lossOf {mM : Mem} {nM : MemL} {sv tv : Nat → Int64} {v : VI} (hM : MR nM v sv tv) (ht : 0 ≤ v 1875 ∧ v 1875 ≤ 10049) (htp : ∀ h : Int, 0 ≤ h → h < 24 → -20 ≤ v (8 + h) ∧ v (8 + h) ≤ 45) {s k top : Int} (hb : (0 ≤ v (37 + s) ∧ v (37 + s) ≤ 3) ∧ 0 ≤ v (42 + s) ∧ v (42 + s) ≤ 100) (h1 : 0 ≤ s) (h2 : s < 5) (q1 : 0 ≤ k) (q2 : k < 30) (h3 : 0 ≤ v (207 + (30 * s + k))) (h4 : v (207 + (30 * s + k)) ≤ 200) (h7 : top = 0 ∨ top = 1) :
    f_X9_lossOf (zI s) (zI k) (zI top) mM nM = some (zL (if lossC v s (v (207 + (30 * s + k))) top (heatF v) < v (207 + (30 * s + k)) then lossC v s (v (207 + (30 * s + k))) top (heatF v) else v (207 + (30 * s + k)))) := by
  obtain ⟨hh, h5, h6⟩ := m_heat (mM := mM) hM ht htp
  have hm1 := mul_b h3 h4 hb.2.1 hb.2.2
  have hm2 := mul_b h5 h6 hb.2.1 hb.2.2
  simp (disch := omega) only [f_X9_lossOf, f_X9_lossOf_b124, z_c0, z_c30, z_c37, z_c42, z_c207, y_c0_, y_c1_, y_c2_, y_c20_, y_c99_, y_c100_, z_add, z_sub, z_neg, y_neg, z_mul, z_div, z_l, y_i, y_add, y_sub, y_mul, y_div, z_lt, z_le, z_eq, y_c1, y_c2, y_c3, y_c4, y_c5, z_gi, bd1_s, bd2_s, mul30, z_ofNat, lt_eq, hM.rd, Int.add_assoc, hh]
  unfold lossC
  repeat' split
  all_goals first | rfl | (exfalso; omega)
theorem sumR_succ (f : Int → Int) (n : Nat) (s : Int) : sumR f (n + 1) s = sumR f n s + f (s + n) := by
  rw [sumR_add n 1 s]; simp only [sumR, Int.add_zero]
/-- the silo s after its first k blocks have lost what they lose -/
def mltV (v : VI) (s h : Int) (k : Nat) : VI := fun j => if 207 + 30 * s ≤ j ∧ j < 207 + 30 * s + k then v j - lossK v s h (j - (207 + 30 * s)) else if j = 52 + s then v j + sumR (lossK v s h) k 0 else if j = 1878 then v j + sumR (lossK v s h) k 0 else v j
theorem mltV_out (v : VI) {s h : Int} {k : Nat} {j : Int} (h1 : ¬ (207 + 30 * s ≤ j ∧ j < 207 + 30 * s + k)) (h2 : j ≠ 52 + s) (h3 : j ≠ 1878) : mltV v s h k j = v j := by
  unfold mltV; rw [if_neg h1, if_neg h2, if_neg h3]
theorem mltV_step (v : VI) {s h : Int} {k : Nat} (h0 : 0 ≤ s) (h1 : s < 5) (hk : k < 30) (j : Int) : mltV v s h (k + 1) j = upV (upV (upV (mltV v s h k) (207 + (30 * s + k)) (v (207 + (30 * s + k)) - lossK v s h k)) (52 + s) (v (52 + s) + sumR (lossK v s h) k 0 + lossK v s h k)) 1878 (v 1878 + sumR (lossK v s h) k 0 + lossK v s h k) j := by
  have e : sumR (lossK v s h) (k + 1) 0 = sumR (lossK v s h) k 0 + lossK v s h k := by rw [sumR_succ, Int.zero_add]
  simp only [mltV, upV, e]
  by_cases c1 : j = 207 + (30 * s + k)
  · subst c1
    rw [if_pos (by omega), if_neg (by omega), if_neg (by omega), if_pos rfl, show 207 + (30 * s + (k : Int)) - (207 + 30 * s) = k by omega]
  · by_cases c2 : j = 52 + s
    · subst c2
      rw [if_neg (by omega), if_pos rfl, if_neg (by omega), if_pos rfl]; omega
    · by_cases c3 : j = 1878
      · subst c3
        rw [if_neg (by omega), if_neg c2, if_pos rfl, if_pos rfl]; omega
      · by_cases c4 : 207 + 30 * s ≤ j ∧ j < 207 + 30 * s + k
        · have c5 : 207 + 30 * s ≤ j ∧ j < 207 + 30 * s + ((k + 1 : Nat) : Int) := by omega
          simp only [if_neg c1, if_neg c2, if_neg c3, if_pos c4, if_pos c5]
        · have c5 : ¬ (207 + 30 * s ≤ j ∧ j < 207 + 30 * s + ((k + 1 : Nat) : Int)) := by omega
          simp only [if_neg c1, if_neg c2, if_neg c3, if_neg c4, if_neg c5]
/-- how many of the first blocks stay -/
def svC (v : VI) (s : Int) : Nat → Int
  | 0 => 0
  | n + 1 => svC v s n + (if v (207 + (30 * s + n)) = 0 then 0 else 1)
theorem svC_le (v : VI) (s : Int) : ∀ n : Nat, 0 ≤ svC v s n ∧ svC v s n ≤ n
  | 0 => ⟨Int.le_refl _, Int.le_refl _⟩
  | n + 1 => by
    have := svC_le v s n
    unfold svC
    split <;> omega
theorem svC_mono (v : VI) (s : Int) : ∀ (n m : Nat), n ≤ m → svC v s n ≤ svC v s m
  | n, 0, h => by rw [show n = 0 by omega]; exact Int.le_refl _
  | n, m + 1, h => by
    by_cases e : n = m + 1
    · rw [e]; exact Int.le_refl _
    · have := svC_mono v s n m (by omega)
      show svC v s n ≤ svC v s m + _
      split <;> omega
theorem svC_lt (v : VI) (s : Int) {n m : Nat} (h : n < m) (hn : v (207 + (30 * s + n)) ≠ 0) : svC v s n < svC v s m := by
  have := svC_mono v s (n + 1) m h
  have e : svC v s (n + 1) = svC v s n + 1 := by
    show svC v s n + _ = _
    rw [if_neg hn]
  omega
theorem svC_onto (v : VI) (s : Int) : ∀ (n : Nat) (q : Int), 0 ≤ q → q < svC v s n → ∃ j : Nat, j < n ∧ v (207 + (30 * s + j)) ≠ 0 ∧ svC v s j = q
  | 0, q, h0, h1 => absurd h1 (by show ¬ q < 0; omega)
  | n + 1, q, h0, h1 => by
    by_cases c : q < svC v s n
    · obtain ⟨j, a, b, d⟩ := svC_onto v s n q h0 c
      exact ⟨j, by omega, b, d⟩
    · have e : svC v s (n + 1) = svC v s n + (if v (207 + (30 * s + n)) = 0 then 0 else 1) := rfl
      rw [e] at h1
      by_cases z : v (207 + (30 * s + n)) = 0
      · rw [if_pos z] at h1; omega
      · rw [if_neg z] at h1; exact ⟨n, by omega, z, by omega⟩
/-- the cell q' of v' is the cell q of v -/
def cellE (v' : VI) (q' : Int) (v : VI) (q : Int) : Prop := v' (57 + q') = v (57 + q) ∧ v' (207 + q') = v (207 + q) ∧ v' (357 + q') = v (357 + q)
/-- v' is v with the blocks of mass 0 from the i-th on removed (b blocks lie in the silo s of v) -/
def CmpI (v : VI) (s : Int) (b i : Nat) (v' : VI) : Prop := v' (47 + s) = i + (svC v s b - svC v s i) ∧ (∀ j : Nat, j < i → cellE v' (30 * s + j) v (30 * s + j)) ∧ (∀ j : Nat, i ≤ j → j < b → v (207 + (30 * s + j)) ≠ 0 → cellE v' (30 * s + (i + (svC v s j - svC v s i))) v (30 * s + j)) ∧ (∀ j : Int, j ≠ 47 + s → ¬ (57 + 30 * s ≤ j ∧ j < 57 + 30 * s + 30) → ¬ (207 + 30 * s ≤ j ∧ j < 207 + 30 * s + 30) → ¬ (357 + 30 * s ≤ j ∧ j < 357 + 30 * s + 30) → v' j = v j)
theorem remV_lo (v : VI) {s k j : Int} (h0 : 0 ≤ s) (h1 : s < 5) (h2 : 0 ≤ j) (h3 : j < k) (h4 : k < v (47 + s)) (h5 : v (47 + s) ≤ 30) : cellE (remV v s k) (30 * s + j) v (30 * s + j) := by
  unfold remV cellE
  refine ⟨?_, ?_, ?_⟩
  · rw [upV_ne _ _ (by omega), shV_out v (by omega)]
  · rw [upV_ne _ _ (by omega), shV_out v (by omega)]
  · rw [upV_ne _ _ (by omega), shV_out v (by omega)]
theorem remV_hi (v : VI) {s k j : Int} (h0 : 0 ≤ s) (h1 : s < 5) (h2 : 0 ≤ k) (h3 : k ≤ j) (h4 : j + 1 < v (47 + s)) (h5 : v (47 + s) ≤ 30) : cellE (remV v s k) (30 * s + j) v (30 * s + (j + 1)) := by
  unfold remV cellE shV
  refine ⟨?_, ?_, ?_⟩
  · rw [upV_ne _ _ (by omega), if_pos (by omega)]; exact congrArg v (by omega)
  · rw [upV_ne _ _ (by omega), if_pos (by omega)]; exact congrArg v (by omega)
  · rw [upV_ne _ _ (by omega), if_pos (by omega)]; exact congrArg v (by omega)
theorem cellE.trans {v1 v2 v3 : VI} {q1 q2 q3 : Int} (h : cellE v1 q1 v2 q2) (g : cellE v2 q2 v3 q3) : cellE v1 q1 v3 q3 := ⟨h.1.trans g.1, h.2.1.trans g.2.1, h.2.2.trans g.2.2⟩
theorem CmpI.step0 {v : VI} {s : Int} {b i : Nat} {v' : VI} (h0 : 0 ≤ s) (h1 : s < 5) (hb : b ≤ 30) (hi : i < b) (h : CmpI v s b (i + 1) v') (hz : v (207 + (30 * s + i)) = 0) : CmpI v s b i (remV v' s i) := by
  obtain ⟨c1, c2, c3, c4⟩ := h
  have e : svC v s (i + 1) = svC v s i := by
    show svC v s i + _ = _
    rw [if_pos hz]; omega
  have m1 := svC_mono v s (i + 1) b hi
  have m2 := svC_le v s i
  have m3 := svC_le v s b
  have hsz : v' (47 + s) ≤ 30 := by
    have : svC v s b - svC v s (i + 1) ≤ b - (i + 1) := by
      have g : ∀ (n m : Nat), n ≤ m → svC v s m - svC v s n ≤ (m : Int) - n := by
        intro n m
        induction m with
        | zero => intro h; rw [show n = 0 by omega]; omega
        | succ m ih =>
          intro h
          by_cases q : n = m + 1
          · rw [q]; omega
          · have := ih (by omega)
            show svC v s m + _ - svC v s n ≤ _
            split <;> omega
      have := g (i + 1) b hi
      omega
    omega
  refine ⟨?_, fun j hj => ?_, fun j hj hjb hp => ?_, fun j q1 q2 q3 q4 => ?_⟩
  · unfold remV; rw [upV_same]; omega
  · exact (remV_lo v' h0 h1 (by omega) (by omega) (by omega) hsz).trans (c2 j (by omega))
  · have hij : i ≠ j := fun q => hp (by rw [← q]; exact hz)
    have l1 := svC_lt v s hjb hp
    have l2 := svC_mono v s (i + 1) j (by omega)
    have := remV_hi v' (s := s) (k := i) (j := i + (svC v s j - svC v s i)) h0 h1 (by omega) (by omega) (by omega) hsz
    refine this.trans ?_
    have g := c3 j (by omega) hjb hp
    rw [show 30 * s + (↑(i + 1) + (svC v s j - svC v s (i + 1))) = 30 * s + (↑i + (svC v s j - svC v s i) + 1) by omega] at g
    exact g
  · unfold remV
    rw [upV_ne _ _ q1, shV_out v' (by omega)]
    exact c4 j q1 q2 q3 q4
theorem CmpI.step1 {v : VI} {s : Int} {b i : Nat} {v' : VI} (hi : i < b) (h : CmpI v s b (i + 1) v') (hz : v (207 + (30 * s + i)) ≠ 0) : CmpI v s b i v' := by
  obtain ⟨c1, c2, c3, c4⟩ := h
  have e : svC v s (i + 1) = svC v s i + 1 := by
    show svC v s i + _ = _
    rw [if_neg hz]
  refine ⟨by omega, fun j hj => c2 j (by omega), fun j hj hjb hp => ?_, c4⟩
  by_cases q : j = i
  · subst q
    rw [show (j : Int) + (svC v s j - svC v s j) = j by omega]
    exact c2 j (by omega)
  · have g := c3 j (by omega) hjb hp
    rw [show 30 * s + (↑(i + 1) + (svC v s j - svC v s (i + 1))) = 30 * s + (↑i + (svC v s j - svC v s i)) by omega] at g
    exact g
theorem CmpI.size {v : VI} {s : Int} {b i : Nat} {v' : VI} (hi : i ≤ b) (h : CmpI v s b i v') : (i : Int) ≤ v' (47 + s) ∧ v' (47 + s) ≤ b := by
  have g : ∀ (n m : Nat), n ≤ m → svC v s m - svC v s n ≤ (m : Int) - n := by
    intro n m
    induction m with
    | zero => intro h; rw [show n = 0 by omega]; omega
    | succ m ih =>
      intro h
      by_cases q : n = m + 1
      · rw [q]; omega
      · have := ih (by omega)
        show svC v s m + _ - svC v s n ≤ _
        split <;> omega
  have := g i b hi
  have m1 := svC_mono v s i b hi
  have := h.1
  omega
theorem m_melt125 {mM : Mem} {v : VI} {sv tv : Nat → Int64} {s : Int} {b : Nat} (h1 : 0 ≤ s) (h2 : s < 5) (hb : b ≤ 30) (hm : ∀ j : Nat, j < b → 0 ≤ v (207 + (30 * s + j)) ∧ v (207 + (30 * s + j)) ≤ 200) (kk : Int32 → MemL → Option MemL) : ∀ (i fu : Nat) (nM : MemL) (v' : VI), i ≤ b → i < fu → MR nM v' sv tv → CmpI v s b i v' →
    ∃ nM' v', f_X9_melt_L125 kk (zI s) mM fu (zI (i - 1)) nM = kk (zI (s + 1)) nM' ∧ MR nM' v' sv tv ∧ CmpI v s b 0 v' := by
  intro i
  induction i with
  | zero =>
    intro fu nM v' hib hf hM hC
    obtain ⟨fu, rfl⟩ : ∃ m, fu = m + 1 := ⟨fu - 1, by omega⟩
    refine ⟨nM, v', ?_, hM, hC⟩
    simp (disch := omega) only [f_X9_melt_L125, z_c0, z_c1, z_c30, z_c207, y_c0_, z_add, z_sub, z_neg, y_neg, z_mul, z_div, z_l, y_i, y_add, y_sub, y_mul, y_div, z_lt, z_le, z_eq, y_c1, y_c2, y_c3, y_c4, y_c5, z_gi, bd1_s, bd2_s, mul30, z_ofNat, lt_eq]
    rw [if_pos (by omega)]
  | succ i ih =>
    intro fu nM v' hib hf hM hC
    obtain ⟨fu, rfl⟩ : ∃ m, fu = m + 1 := ⟨fu - 1, by omega⟩
    have hmi := hm i (by omega)
    have hcell := (hC.2.1 i (by omega)).2.1
    have hsz := hC.size hib
    have hr := hM.rd (a := 207 + (30 * s + i)) (by omega) (by omega)
    rw [hcell] at hr
    have ei : ((i + 1 : Nat) : Int) - 1 = i := by omega
    rw [ei]
    simp (disch := omega) only [f_X9_melt_L125, f_X9_melt_b155, z_c0, z_c1, z_c30, z_c207, y_c0_, z_add, z_sub, z_neg, y_neg, z_mul, z_div, z_l, y_i, y_add, y_sub, y_mul, y_div, z_lt, z_le, z_eq, y_c1, y_c2, y_c3, y_c4, y_c5, z_gi, bd1_s, bd2_s, mul30, z_ofNat, Int.add_assoc, hr]
    rw [if_neg (by omega)]
    by_cases c : v (207 + (30 * s + i)) = 0
    · rw [if_pos c]
      obtain ⟨nM1, e1, hM1⟩ := m_remove (mM := mM) hM (s := s) (k := i) (by omega) h1 h2 (by omega) (by omega)
      rw [e1, bd1_s, lt_eq]
      exact ih fu nM1 _ (by omega) (by omega) hM1 (hC.step0 h1 h2 hb (by omega) c)
    · rw [if_neg c, lt_eq]
      exact ih fu nM v' (by omega) (by omega) hM (hC.step1 (by omega) c)
theorem m_melt18 {mM : Mem} {v : VI} {sv tv : Nat → Int64} {s : Int} {b : Nat} (ht : 0 ≤ v 1875 ∧ v 1875 ≤ 10049) (htp : ∀ h : Int, 0 ≤ h → h < 24 → -20 ≤ v (8 + h) ∧ v (8 + h) ≤ 45) (hr : (0 ≤ v (37 + s) ∧ v (37 + s) ≤ 3) ∧ 0 ≤ v (42 + s) ∧ v (42 + s) ≤ 100) (h1 : 0 ≤ s) (h2 : s < 5) (hb : b ≤ 30) (hvb : v (47 + s) = b) (hm : ∀ j : Nat, j < b → 0 ≤ v (207 + (30 * s + j)) ∧ v (207 + (30 * s + j)) ≤ 200) (kk : Int32 → MemL → Option MemL) : ∀ (n k fu : Nat) (nM : MemL), k + n = b → n < fu → MR nM (mltV v s (heatF v) k) sv tv →
    ∃ nM' v', f_X9_melt_L18 kk (zI s) mM fu (zI k) nM = kk (zI (s + 1)) nM' ∧ MR nM' v' sv tv ∧ CmpI (mltV v s (heatF v) b) s b 0 v' := by
  have hh : 0 ≤ heatF v ∧ heatF v ≤ 45 := by
    have h1 : 0 ≤ hourF v ∧ hourF v < 24 := by unfold hourF; omega
    have h2 := htp _ h1.1 h1.2
    unfold heatF; split <;> omega
  intro n
  induction n with
  | zero =>
    intro k fu nM hk hf hM
    obtain ⟨fu, rfl⟩ : ∃ m, fu = m + 1 := ⟨fu - 1, by omega⟩
    obtain rfl : k = b := by omega
    have e47 : mltV v s (heatF v) k (47 + s) = k := by rw [mltV_out v (by omega) (by omega) (by omega), hvb]
    have hrd := hM.rd (a := 47 + s) (by omega) (by omega)
    rw [e47] at hrd
    simp (disch := omega) only [f_X9_melt_L18, z_c0, z_c1, z_c47, y_c1_, z_add, z_sub, z_neg, y_neg, z_mul, z_div, z_l, y_i, y_add, y_sub, y_mul, y_div, z_lt, z_le, z_eq, y_c1, y_c2, y_c3, y_c4, y_c5, z_gi, bd1_s, bd2_s, mul30, z_ofNat, lt_eq, hrd]
    rw [if_pos (by omega)]
    refine m_melt125 h1 h2 hb (fun j hj => ?_) kk k fuel nM _ (Nat.le_refl _) (fuel_gt (by omega)) hM ⟨by omega, fun j _ => ⟨rfl, rfl, rfl⟩, fun j q1 q2 _ => absurd q1 (by omega), fun j _ _ _ _ => rfl⟩
    have := hm j hj
    have := lossK_b (k := j) hr this.1 this.2 hh.1 hh.2
    have e : mltV v s (heatF v) k (207 + (30 * s + j)) = v (207 + (30 * s + j)) - lossK v s (heatF v) j := by
      unfold mltV
      rw [if_pos (by omega), show 207 + (30 * s + (j : Int)) - (207 + 30 * s) = j by omega]
    rw [e]; omega
  | succ n ih =>
    intro k fu nM hk hf hM
    obtain ⟨fu, rfl⟩ : ∃ m, fu = m + 1 := ⟨fu - 1, by omega⟩
    have o : ∀ {j : Int}, ¬ (207 + 30 * s ≤ j ∧ j < 207 + 30 * s + k) → j ≠ 52 + s → j ≠ 1878 → mltV v s (heatF v) k j = v j := fun a b c => mltV_out v a b c
    have e47 : mltV v s (heatF v) k (47 + s) = b := by rw [o (by omega) (by omega) (by omega), hvb]
    have hrd := hM.rd (a := 47 + s) (by omega) (by omega)
    rw [e47] at hrd
    have hmk := hm k (by omega)
    have e207 : mltV v s (heatF v) k (207 + (30 * s + k)) = v (207 + (30 * s + k)) := o (by omega) (by omega) (by omega)
    have hh2 : heatF (mltV v s (heatF v) k) = heatF v := heatF_cg (o (by omega) (by omega) (by omega)) (fun h a1 a2 => o (by omega) (by omega) (by omega))
    have hlc : ∀ (m top h : Int), lossC (mltV v s (heatF v) k) s m top h = lossC v s m top h := fun m top h => by
      unfold lossC
      rw [o (j := 37 + s) (by omega) (by omega) (by omega), o (j := 42 + s) (by omega) (by omega) (by omega)]
    have hl : ∀ top : Int, (top = 0 ∨ top = 1) → top = (if (k : Int) = v (47 + s) - 1 then 1 else 0) → f_X9_lossOf (zI s) (zI k) (zI top) mM nM = some (zL (lossK v s (heatF v) k)) := fun top t1 t2 => by
      have := m_lossOf (mM := mM) hM (by rw [o (by omega) (by omega) (by omega)]; exact ht) (fun h a1 a2 => by rw [o (by omega) (by omega) (by omega)]; exact htp h a1 a2) (s := s) (k := k) (top := top) (by rw [o (j := 37 + s) (by omega) (by omega) (by omega), o (j := 42 + s) (by omega) (by omega) (by omega)]; exact hr) h1 h2 (by omega) (by omega) (by rw [e207]; exact hmk.1) (by rw [e207]; exact hmk.2) t1
      rw [this, e207, hh2, hlc, t2]; rfl
    have key : ∀ top : Int, (top = 0 ∨ top = 1) → top = (if (k : Int) = v (47 + s) - 1 then 1 else 0) → ∃ nM' v', f_X9_melt_b58 kk (f_X9_melt_L18 kk (zI s) mM fu) (zI s) (zI k) (zI top) (zI k) (zI s) mM nM = kk (zI (s + 1)) nM' ∧ MR nM' v' sv tv ∧ CmpI (mltV v s (heatF v) b) s b 0 v' := fun top t1 t2 => by
      unfold f_X9_melt_b58
      rw [hl top t1 t2, bd1_s]
      have e52 : mltV v s (heatF v) k (52 + s) = v (52 + s) + sumR (lossK v s (heatF v)) k 0 := by
        unfold mltV; rw [if_neg (by omega), if_pos rfl]
      have e1878 : mltV v s (heatF v) k 1878 = v 1878 + sumR (lossK v s (heatF v)) k 0 := by
        unfold mltV; rw [if_neg (by omega), if_neg (by omega), if_pos rfl]
      simp (disch := omega) only [f_X9_melt_b58, z_c1, z_c30, z_c52, z_c207, z_c1878, z_add, z_sub, z_neg, y_neg, z_mul, z_div, z_l, y_i, y_add, y_sub, y_mul, y_div, z_lt, z_le, z_eq, y_c1, y_c2, y_c3, y_c4, y_c5, z_gi, bd1_s, bd2_s, mul30, z_ofNat, hM.rd, Int.add_assoc, e207]
      refine P_wr (P := fun z => ∃ nM' v', z = kk (zI (s + 1)) nM' ∧ MR nM' v' sv tv ∧ CmpI (mltV v s (heatF v) b) s b 0 v') hM (by omega) (by omega) (fun nM hM => ?_)
      simp (disch := omega) only [z_gi, hM.rd, upV_ne, e52, y_add]
      refine P_wr (P := fun z => ∃ nM' v', z = kk (zI (s + 1)) nM' ∧ MR nM' v' sv tv ∧ CmpI (mltV v s (heatF v) b) s b 0 v') hM (by omega) (by omega) (fun nM hM => ?_)
      simp (disch := omega) only [z_gi, hM.rd, upV_ne, e1878, y_add]
      refine P_wr (P := fun z => ∃ nM' v', z = kk (zI (s + 1)) nM' ∧ MR nM' v' sv tv ∧ CmpI (mltV v s (heatF v) b) s b 0 v') hM (by omega) (by omega) (fun nM hM => ?_)
      simp only [lt_eq]
      rw [show (k : Int) + 1 = ((k + 1 : Nat) : Int) by omega]
      exact ih (k + 1) fu nM (by omega) (by omega) (hM.cg fun j _ _ => mltV_step v h1 h2 (by omega) j)
    simp (disch := omega) only [f_X9_melt_L18, z_c0, z_c1, z_c47, y_c1_, z_add, z_sub, z_neg, y_neg, z_mul, z_div, z_l, y_i, y_add, y_sub, y_mul, y_div, z_lt, z_le, z_eq, y_c1, y_c2, y_c3, y_c4, y_c5, z_gi, bd1_s, bd2_s, mul30, z_ofNat, hrd]
    rw [if_neg (by omega)]
    by_cases c : (k : Int) = b - 1
    · rw [if_pos c]; exact key 1 (Or.inr rfl) (by rw [if_pos (by omega)])
    · rw [if_neg c]; exact key 0 (Or.inl rfl) (by rw [if_neg (by omega)])
/-- where the class stands at its i-th block -/
def MelU (v : VI) (s h : Int) (b i : Nat) (v' u : VI) : Prop := (∀ j : Int, ¬ (57 + 30 * s ≤ j ∧ j < 57 + 30 * s + 30) → ¬ (207 + 30 * s ≤ j ∧ j < 207 + 30 * s + 30) → ¬ (357 + 30 * s ≤ j ∧ j < 357 + 30 * s + 30) → j ≠ 52 + s → u j = v j) ∧ u (52 + s) = v (52 + s) + sumR (lossK v s h) i 0 ∧ (∀ j : Nat, i ≤ j → j < b → cellE u (30 * s + j) v (30 * s + j)) ∧ (∀ q : Int, 0 ≤ q → q < svC (mltV v s h b) s i → cellE u (30 * s + q) v' (30 * s + q))
theorem s_melt23 {v v' : VI} {T : Int} {s h : Int} {b : Nat} (hI : IS T v) (hh : 0 ≤ h ∧ h ≤ 45) (h1 : 0 ≤ s) (h2 : s < 5) (hb : b ≤ 30) (hvb : v (47 + s) = b) (hC : CmpI (mltV v s h b) s b 0 v') : ∀ (n i fu : Nat) (mS : Mem) (u : VI), i + n = b → n < fu → RS mS u → MelU v s h b i v' u →
    Ev (f_X6_meltSilo_L23 (zI s) (zI h) (zI (30 * s)) (zI (30 * s + b - 1)) fu (zI (30 * s + svC (mltV v s h b) s i)) (zI (30 * s + i)) mS) (fun mS' => RS mS' v') := by
  have hr := hI.2.2.1 s h1 h2
  have hr2 : (0 ≤ v (37 + s) ∧ v (37 + s) ≤ 3) ∧ 0 ≤ v (42 + s) ∧ v (42 + s) ≤ 100 := ⟨hr.2.1, hr.2.2.1⟩
  have hzz : ∀ s : Int, 0 ≤ s → s < 5 → v (47 + s) ≤ 30 := fun s q1 q2 => by have := hI.sz q1 q2; omega
  have e1m : ∀ j : Nat, j < b → mltV v s h b (207 + (30 * s + j)) = v (207 + (30 * s + j)) - lossK v s h j := fun j hj => by
    unfold mltV
    rw [if_pos (by omega), show 207 + (30 * s + (j : Int)) - (207 + 30 * s) = j by omega]
  obtain ⟨C1, -, C3, C4⟩ := hC
  have hsv0 : svC (mltV v s h b) s 0 = 0 := rfl
  intro n
  induction n with
  | zero =>
    intro i fu mS u hi hf hS hU
    obtain ⟨fu, rfl⟩ : ∃ m, fu = m + 1 := ⟨fu - 1, by omega⟩
    obtain rfl : i = b := by omega
    obtain ⟨U1, U2, U3, U4⟩ := hU
    have hsv := svC_le (mltV v s h i) s i
    have hzu : ∀ s : Int, 0 ≤ s → s < 5 → u (47 + s) ≤ 30 := fun s' q1 q2 => by rw [U1 _ (by omega) (by omega) (by omega) (by omega)]; exact hzz s' q1 q2
    have eu47 : u (47 + s) = i := by rw [U1 _ (by omega) (by omega) (by omega) (by omega), hvb]
    simp (disch := omega) only [f_X6_meltSilo_L23, z_c0, z_c1, z_add, z_sub, z_neg, y_neg, z_mul, z_div, z_l, y_i, y_add, y_sub, y_mul, y_div, z_lt, z_le, z_eq, y_c1, y_c2, y_c3, y_c4, y_c5, z_gi, bd1_s, bd2_s, mul30, z_ofNat, lt_eq]
    rw [if_pos (by omega)]
    have hw := hS.size h1 h2 (x := svC (mltV v s h i) s i) (by omega) (fun k q0 q1 q2 => by rw [eu47] at q1; omega) hzu
    rw [show 30 * s + svC (mltV v s h i) s i - 30 * s = svC (mltV v s h i) s i by omega]
    refine Ev_some (hw.cgL ?_ ?_ (fun j q1 q2 => ?_) (fun s' k q1 q2 q3 q4 => ?_))
    · rw [C4 _ (by omega) (by omega) (by omega) (by omega), mltV_out v (by omega) (by omega) (by omega), upV_ne _ _ (by omega), U1 _ (by omega) (by omega) (by omega) (by omega)]
    · rw [C4 _ (by omega) (by omega) (by omega) (by omega), mltV_out v (by omega) (by omega) (by omega), upV_ne _ _ (by omega), U1 _ (by omega) (by omega) (by omega) (by omega)]
    · by_cases e1 : j = 47 + s
      · subst e1; rw [upV_same]; omega
      · by_cases e2 : j = 52 + s
        · subst e2
          rw [C4 _ (by omega) (by omega) (by omega) (by omega), upV_ne _ _ (by omega), U2]
          unfold mltV; rw [if_neg (by omega), if_pos rfl]
        · rw [C4 _ e1 (by omega) (by omega) (by omega), mltV_out v (by omega) e2 (by omega), upV_ne _ _ e1, U1 _ (by omega) (by omega) (by omega) e2]
    · by_cases e : s' = s
      · subst e
        rw [upV_same] at q4
        have g := U4 k q3 q4
        rw [upV_ne _ _ (by omega), upV_ne _ _ (by omega), upV_ne _ _ (by omega)]
        exact ⟨g.1.symm, g.2.1.symm, g.2.2.symm⟩
      · rw [upV_ne _ _ (by omega)] at q4
        have := hzu s' q1 q2
        rw [upV_ne _ _ (by omega), upV_ne _ _ (by omega), upV_ne _ _ (by omega)]
        rw [C4 _ (by omega) (by omega) (by omega) (by omega), C4 _ (by omega) (by omega) (by omega) (by omega), C4 _ (by omega) (by omega) (by omega) (by omega), mltV_out v (by omega) (by omega) (by omega), mltV_out v (by omega) (by omega) (by omega), mltV_out v (by omega) (by omega) (by omega), U1 _ (by omega) (by omega) (by omega) (by omega), U1 _ (by omega) (by omega) (by omega) (by omega), U1 _ (by omega) (by omega) (by omega) (by omega)]
        exact ⟨rfl, rfl, rfl⟩
  | succ n ih =>
    intro i fu mS u hi hf hS hU
    obtain ⟨fu, rfl⟩ : ∃ m, fu = m + 1 := ⟨fu - 1, by omega⟩
    obtain ⟨U1, U2, U3, U4⟩ := hU
    have hsv := svC_le (mltV v s h b) s i
    have hzu : ∀ s : Int, 0 ≤ s → s < 5 → u (47 + s) ≤ 30 := fun s' q1 q2 => by rw [U1 _ (by omega) (by omega) (by omega) (by omega)]; exact hzz s' q1 q2
    have eu47 : u (47 + s) = b := by rw [U1 _ (by omega) (by omega) (by omega) (by omega), hvb]
    have eu37 : u (37 + s) = v (37 + s) := U1 _ (by omega) (by omega) (by omega) (by omega)
    have eu42 : u (42 + s) = v (42 + s) := U1 _ (by omega) (by omega) (by omega) (by omega)
    have hbk := hI.blk (s := s) (k := i) h1 h2 (by omega) (by omega)
    have hc := U3 i (Nat.le_refl _) (by omega)
    have hcell := hS.blk (s := s) (k := i) h1 h2 (by omega) (by omega)
    rw [hc.1, hc.2.1, hc.2.2] at hcell
    have hlk := lossK_b (k := i) hr2 (by omega) (by omega) hh.1 hh.2
    have hlC : ∀ top : Int, (top = 0 ∨ top = 1) → f_X6_lossOf (zI s) (zI (v (207 + (30 * s + i)))) (zI top) (zI h) mS = some (zI (lossC v s (v (207 + (30 * s + i))) top h)) := fun top t1 => by
      rw [s_lossOf hS (by rw [eu37, eu42]; exact hr2) h1 h2 (by omega) (by omega) hh.1 hh.2 t1]
      unfold lossC
      rw [eu37, eu42]
    have key : Ev (f_X6_meltSilo_b81 (f_X6_meltSilo_L23 (zI s) (zI h) (zI (30 * s)) (zI (30 * s + b - 1)) fu) (zI s) (zI h) (zI (30 * s)) (zI (30 * s + b - 1)) (zI (30 * s + svC (mltV v s h b) s i)) (zI (30 * s + i)) (zI (lossK v s h i)) mS) (fun mS' => RS mS' v') := by
      have hm := hS.mel h1 h2
      have hT := hI.2.1
      simp (disch := omega) only [f_X6_meltSilo_b81, z_c1, z_add, z_sub, z_neg, y_neg, z_mul, z_div, z_l, y_i, y_add, y_sub, y_mul, y_div, z_lt, z_le, z_eq, y_c1, y_c2, y_c3, y_c4, y_c5, z_gi, bd1_s, bd2_s, mul30, z_ofNat, hm]
      refine Ev_lt ?_
      have hw := hS.melw (s := s) (u (52 + s) + lossK v s h i) h1 h2 hzu
      have hw2 := hw.blk (s := s) (k := i) h1 h2 (by omega) (by rw [upV_ne _ _ (by omega)]; omega)
      rw [upV_ne _ _ (by omega), upV_ne _ _ (by omega), upV_ne _ _ (by omega), hc.1, hc.2.1, hc.2.2] at hw2
      generalize wrI mS 6 (upd (mS 6) (zI s).toNatClampNeg (zI (u (52 + s) + lossK v s h i))) = M3 at hw hw2 ⊢
      have esum : sumR (lossK v s h) (i + 1) 0 = sumR (lossK v s h) i 0 + lossK v s h i := by rw [sumR_succ, Int.zero_add]
      have o : ∀ j : Int, j ≠ 52 + s → upV u (52 + s) (u (52 + s) + lossK v s h i) j = u j := fun j q => upV_ne _ _ q
      simp (disch := omega) only [f_X6_meltSilo_b81, z_c1, z_add, z_sub, z_neg, y_neg, z_mul, z_div, z_l, y_i, y_add, y_sub, y_mul, y_div, z_lt, z_le, z_eq, y_c1, y_c2, y_c3, y_c4, y_c5, z_gi, bd1_s, bd2_s, mul30, z_ofNat, hw2.1, hw2.2.1, hw2.2.2]
      by_cases c : v (207 + (30 * s + i)) ≤ lossK v s h i
      · rw [if_pos c]
        have es : svC (mltV v s h b) s (i + 1) = svC (mltV v s h b) s i := by
          show svC _ s i + _ = _
          rw [if_pos (by rw [e1m i (by omega)]; omega)]; omega
        unfold f_X6_meltSilo_b139
        rw [z_c1, z_add, lt_eq, show 30 * s + (i : Int) + 1 = 30 * s + ((i + 1 : Nat) : Int) by omega, ← es]
        refine ih (i + 1) fu M3 _ (by omega) (by omega) hw ⟨fun j a1 a2 a3 a4 => (o j a4).trans (U1 j a1 a2 a3 a4), ?_, fun j a1 a2 => ?_, fun q a1 a2 => ?_⟩
        · rw [upV_same, U2, esum]; omega
        · refine cellE.trans ⟨o _ (by omega), o _ (by omega), o _ (by omega)⟩ (U3 j (by omega) a2)
        · rw [es] at a2
          refine cellE.trans ⟨o _ (by omega), o _ (by omega), o _ (by omega)⟩ (U4 q a1 a2)
      · rw [if_neg c]
        have hp : mltV v s h b (207 + (30 * s + i)) ≠ 0 := by rw [e1m i (by omega)]; omega
        have es : svC (mltV v s h b) s (i + 1) = svC (mltV v s h b) s i + 1 := by
          show svC _ s i + _ = _
          rw [if_neg hp]
        rw [s_fill _ _ _ _ (by omega) (by omega), bd1_s]
        refine Ev_lt ?_
        unfold f_X6_meltSilo_b139
        rw [z_c1, z_add, lt_eq, show 30 * s + (i : Int) + 1 = 30 * s + ((i + 1 : Nat) : Int) by omega, show 30 * s + svC (mltV v s h b) s i + 1 = 30 * s + svC (mltV v s h b) s (i + 1) by omega]
        have hw3 := hw.fill (a := 30 * s + svC (mltV v s h b) s i) (v (57 + (30 * s + i))) (v (207 + (30 * s + i)) - lossK v s h i) (v (357 + (30 * s + i))) (by omega) (by omega) (fun s' q1 q2 => by rw [o _ (by omega)]; exact hzu s' q1 q2)
        have hC3 := C3 i (Nat.zero_le _) (by omega) hp
        rw [hsv0, show 30 * s + (((0 : Nat) : Int) + (svC (mltV v s h b) s i - 0)) = 30 * s + svC (mltV v s h b) s i by omega] at hC3
        have f0 : ∀ j : Int, j ≠ 57 + (30 * s + svC (mltV v s h b) s i) → j ≠ 207 + (30 * s + svC (mltV v s h b) s i) → j ≠ 357 + (30 * s + svC (mltV v s h b) s i) → j ≠ 52 + s → filV (upV u (52 + s) (u (52 + s) + lossK v s h i)) (30 * s + svC (mltV v s h b) s i) (v (57 + (30 * s + i))) (v (207 + (30 * s + i)) - lossK v s h i) (v (357 + (30 * s + i))) j = u j := fun j a1 a2 a3 a4 => by
          rw [filV_out _ ⟨a1, a2, a3⟩, o j a4]
        refine ih (i + 1) fu _ _ (by omega) (by omega) hw3 ⟨fun j a1 a2 a3 a4 => ?_, ?_, fun j a1 a2 => ?_, fun q a1 a2 => ?_⟩
        · rw [f0 j (by omega) (by omega) (by omega) a4]; exact U1 j a1 a2 a3 a4
        · rw [filV_out _ (by omega), upV_same, U2, esum]; omega
        · refine cellE.trans ⟨f0 _ (by omega) (by omega) (by omega) (by omega), f0 _ (by omega) (by omega) (by omega) (by omega), f0 _ (by omega) (by omega) (by omega) (by omega)⟩ (U3 j (by omega) a2)
        · rw [es] at a2
          by_cases e : q = svC (mltV v s h b) s i
          · subst e
            unfold cellE filV
            rw [hC3.1, hC3.2.1, hC3.2.2, e1m i (by omega)]
            simp (disch := omega) only [upV_ne, upV_at]
            rw [mltV_out v (by omega) (by omega) (by omega), mltV_out v (by omega) (by omega) (by omega)]
            exact ⟨rfl, trivial, rfl⟩
          · refine cellE.trans ⟨f0 _ (by omega) (by omega) (by omega) (by omega), f0 _ (by omega) (by omega) (by omega) (by omega), f0 _ (by omega) (by omega) (by omega) (by omega)⟩ (U4 q a1 (by omega))
    have hlb0 := lossC_b (top := 0) hr2 (mass := v (207 + (30 * s + i))) (by omega) (by omega) hh.1 hh.2
    have hlb1 := lossC_b (top := 1) hr2 (mass := v (207 + (30 * s + i))) (by omega) (by omega) hh.1 hh.2
    have key2 : ∀ top : Int, (top = 0 ∨ top = 1) → top = (if (i : Int) = v (47 + s) - 1 then 1 else 0) → Ev (f_X6_meltSilo_b51 (f_X6_meltSilo_L23 (zI s) (zI h) (zI (30 * s)) (zI (30 * s + b - 1)) fu) (zI s) (zI h) (zI (30 * s)) (zI (30 * s + b - 1)) (zI (30 * s + svC (mltV v s h b) s i)) (zI (30 * s + i)) (zI top) (zI (v (207 + (30 * s + i)))) (zI s) mS) (fun mS' => RS mS' v') := fun top t1 t2 => by
      have hlb := lossC_b (top := top) hr2 (mass := v (207 + (30 * s + i))) (by omega) (by omega) hh.1 hh.2
      unfold f_X6_meltSilo_b51
      rw [hlC top t1, bd1_s]
      simp (disch := omega) only [z_add, z_sub, z_neg, y_neg, z_mul, z_div, z_l, y_i, y_add, y_sub, y_mul, y_div, z_lt, z_le, z_eq, y_c1, y_c2, y_c3, y_c4, y_c5, z_gi, bd1_s, bd2_s, mul30, z_ofNat, lt_eq, hcell.2.1]
      by_cases c : v (207 + (30 * s + i)) ≤ lossC v s (v (207 + (30 * s + i))) top h
      · rw [if_pos c]
        have e : lossK v s h i = v (207 + (30 * s + i)) := by unfold lossK; rw [← t2, if_neg (by omega)]
        rw [e] at key; exact key
      · rw [if_neg c]
        have e : lossK v s h i = lossC v s (v (207 + (30 * s + i))) top h := by unfold lossK; rw [← t2, if_pos (by omega)]
        rw [e] at key; exact key
    simp (disch := omega) only [f_X6_meltSilo_L23, z_c0, z_c1, z_add, z_sub, z_neg, y_neg, z_mul, z_div, z_l, y_i, y_add, y_sub, y_mul, y_div, z_lt, z_le, z_eq, y_c1, y_c2, y_c3, y_c4, y_c5, z_gi, bd1_s, bd2_s, mul30, z_ofNat, hcell.2.1]
    rw [if_neg (by omega)]
    by_cases c : 30 * s + (i : Int) = 30 * s + b - 1
    · rw [if_pos c]; exact key2 1 (Or.inr rfl) (by rw [if_pos (by omega)])
    · rw [if_neg c]; exact key2 0 (Or.inl rfl) (by rw [if_neg (by omega)])
theorem s_meltSilo {mS : Mem} {v v' : VI} {T : Int} {s h : Int} (hS : RS mS v) (hI : IS T v) (hh : 0 ≤ h ∧ h ≤ 45) (h1 : 0 ≤ s) (h2 : s < 5) (hC : CmpI (mltV v s h (v (47 + s)).toNat) s (v (47 + s)).toNat 0 v') : Ev (f_X6_meltSilo (zI s) (zI h) mS) (fun mS' => RS mS' v') := by
  have hz := hI.sz h1 h2
  have hsz := hS.sz h1 h2
  have e : ((v (47 + s)).toNat : Int) = v (47 + s) := by omega
  have := s_melt23 hI hh h1 h2 (b := (v (47 + s)).toNat) (by omega) (by omega) hC (v (47 + s)).toNat 0 fuel mS v (by omega) (fuel_gt (by omega)) hS ⟨fun j _ _ _ _ => rfl, by show v (52 + s) = v (52 + s) + 0; omega, fun j _ _ => ⟨rfl, rfl, rfl⟩, fun q q1 q2 => absurd q2 (by show ¬ q < 0; omega)⟩
  simp (disch := omega) only [f_X6_meltSilo, z_c1, z_c30, z_add, z_sub, z_neg, y_neg, z_mul, z_div, z_l, y_i, y_add, y_sub, y_mul, y_div, z_lt, z_le, z_eq, y_c1, y_c2, y_c3, y_c4, y_c5, z_gi, bd1_s, bd2_s, mul30, z_ofNat, lt_eq, hsz]
  rw [e, show svC (mltV v s h (v (47 + s)).toNat) s 0 = 0 from rfl, show 30 * s + ((0 : Nat) : Int) = 30 * s by omega, Int.add_zero] at this
  exact this
