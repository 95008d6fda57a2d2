/-! which order comes first -/
def leadF (v : VI) (a b : Int) : Int := if v 2 = 1 then v (507 + v (531 + a)) - v (507 + v (531 + b)) else if v 2 = 2 then v (1131 + b) - v (1131 + a) else if v 2 = 3 then v (507 + v (531 + a)) * remF v b - v (507 + v (531 + b)) * remF v a else 0
def befF (v : VI) (a b : Int) : Int := if leadF v a b = 0 then (if a < b then 1 else 0) else if 0 < leadF v a b then 1 else 0
theorem befF_01 (v : VI) (a b : Int) : befF v a b = 0 ∨ befF v a b = 1 := by
  unfold befF; repeat' split
  all_goals omega
theorem s_before {mB mO : Mem} {v : VI} {T : Int} (hB : RB mB v) (hIB : IB T v) (hO : RO mO v) (hI : IOr v) (hp : 0 ≤ v 2 ∧ v 2 ≤ 3) {a b : Int} (a1 : 0 ≤ a) (a2 : a < v 1882) (b1 : 0 ≤ b) (b2 : b < v 1882) : f_X3_comesBefore (zI a) (zI b) (zI (v 2)) mB mO = some (zI (befF v a b)) := by
  have hb := hI.1
  have hbb := hIB.1
  have ha := hI.2.2 a a1 (by omega)
  have ha2 := ha.2.2.2.2.2 a2
  have hbo := hI.2.2 b b1 (by omega)
  have hb2 := hbo.2.2.2.2.2 b2
  have ca := (hIB.2 (v (531 + a)) (by omega) (by omega)).1
  have cb := (hIB.2 (v (531 + b)) (by omega) (by omega)).1
  have ra := remF_b hI a1 a2
  have rb := remF_b hI b1 b2
  have m1 := mul_b ca.1 ca.2 rb.1 rb.2
  have m2 := mul_b cb.1 cb.2 ra.1 ra.2
  unfold f_X3_comesBefore
  rw [s_valueIn (n := 200) hO.2.2.1 (by omega) a1 (by omega), bd1_s, s_valueIn (n := 8) hB.2.1 (by omega) (by omega) (by omega), bd1_s, s_valueIn (n := 200) hO.2.2.1 (by omega) b1 (by omega), s_remaining hO hI a1 a2, s_remaining hO hI b1 b2, s_valueIn (n := 200) hO.2.2.2.2.2.1 (by omega) b1 (by omega), s_valueIn (n := 200) hO.2.2.2.2.2.1 (by omega) a1 (by omega), lt_eq, bd1_s, s_valueIn (n := 8) hB.2.1 (by omega) (by omega) (by omega), bd1_s]
  simp (disch := omega) only [f_X3_comesBefore, f_X3_comesBefore_b110, z_c0, z_c1, z_c2, z_c3, y_c0_, z_add, z_sub, z_neg, y_neg, z_mul, z_div, z_l, y_i, y_add, y_sub, y_mul, y_div, z_lt, z_le, z_eq, y_c1, y_c2, y_c3, y_c4, y_c5, z_gi, bd1_s, bd2_s, mul30, z_ofNat, lt_eq]
  unfold befF leadF
  have h2 : v 2 = 0 ∨ v 2 = 1 ∨ v 2 = 2 ∨ v 2 = 3 := by omega
  rcases h2 with h2 | h2 | h2 | h2
  all_goals simp only [h2, Int.reduceEq, ↓reduceIte]
  all_goals repeat' split
  all_goals first | rfl | (exfalso; omega)
theorem m_catchOf {mM : Mem} {nM : MemL} {sv tv : Nat → Int64} {v : VI} {T : Int} (hM : MR nM v sv tv) (hIB : IB T v) (hI : IOr v) {a : Int} (a1 : 0 ≤ a) (a2 : a < v 1882) : f_X9_catchOf (zI a) mM nM = some (zL (v (507 + v (531 + a)))) := by
  have hb := hI.1
  have hbb := hIB.1
  have ha2 := (hI.2.2 a a1 (by omega)).2.2.2.2.2 a2
  simp (disch := omega) only [f_X9_catchOf, z_c507, z_c531, z_add, z_sub, z_neg, y_neg, z_mul, z_div, z_l, y_i, y_add, y_sub, y_mul, y_div, z_lt, z_le, z_eq, y_c1, y_c2, y_c3, y_c4, y_c5, z_gi, bd1_s, bd2_s, mul30, z_ofNat, lt_eq, hM.rd]
theorem m_before {mM : Mem} {nM : MemL} {sv tv : Nat → Int64} {v : VI} {T : Int} (hM : MR nM v sv tv) (hIB : IB T v) (hI : IOr v) (hp : 0 ≤ v 2 ∧ v 2 ≤ 3) {a b : Int} (a1 : 0 ≤ a) (a2 : a < v 1882) (b1 : 0 ≤ b) (b2 : b < v 1882) : f_X9_isBefore (zI a) (zI b) mM nM = some (zI (befF v a b)) := by
  have hb := hI.1
  have hbb := hIB.1
  have ha := hI.2.2 a a1 (by omega)
  have ha2 := ha.2.2.2.2.2 a2
  have hbo := hI.2.2 b b1 (by omega)
  have hb2 := hbo.2.2.2.2.2 b2
  have ca := (hIB.2 (v (531 + a)) (by omega) (by omega)).1
  have cb := (hIB.2 (v (531 + b)) (by omega) (by omega)).1
  have ra := remF_b hI a1 a2
  have rb := remF_b hI b1 b2
  have m1 := mul_b ca.1 ca.2 rb.1 rb.2
  have m2 := mul_b cb.1 cb.2 ra.1 ra.2
  unfold f_X9_isBefore
  rw [m_catchOf hM hIB hI b1 b2, m_catchOf hM hIB hI a1 a2, m_remaining hM hI a1 a2, m_remaining hM hI b1 b2]
  simp (disch := omega) only [f_X9_isBefore, f_X9_isBefore_b109, f_X9_isBefore_b128, z_c0, z_c1, z_c2, z_c1131, y_c0_, y_c1_, y_c2_, y_c3_, z_add, z_sub, z_neg, y_neg, z_mul, z_div, z_l, y_i, y_add, y_sub, y_mul, y_div, z_lt, z_le, z_eq, y_c1, y_c2, y_c3, y_c4, y_c5, z_gi, bd1_s, bd2_s, mul30, z_ofNat, lt_eq, hM.rd]
  unfold befF leadF
  have h2 : v 2 = 0 ∨ v 2 = 1 ∨ v 2 = 2 ∨ v 2 = 3 := by omega
  rcases h2 with h2 | h2 | h2 | h2
  all_goals simp only [h2, Int.reduceEq, ↓reduceIte]
  all_goals repeat' split
  all_goals first | rfl | (exfalso; omega)
/-- how many open orders come before o -/
def ahF (v : VI) (o : Int) : Int := sumR (fun k => if stF v k = 0 then befF v k o else 0) (v 1882).toNat 0
theorem m_ahead4 {mM : Mem} {nM : MemL} {sv tv : Nat → Int64} {v : VI} {T : Int} (hM : MR nM v sv tv) (hIB : IB T v) (hI : IOr v) (hp : 0 ≤ v 2 ∧ v 2 ≤ 3) {o : Int} (o1 : 0 ≤ o) (o2 : o < v 1882) : ∀ (n fu : Nat) (k A : Int), 0 ≤ k → k + n = v 1882 → n < fu →
    f_X9_aheadOf_L4 (zI o) mM nM fu (zI A) (zI k) = some (zI (A + sumR (fun k => if stF v k = 0 then befF v k o else 0) n k)) := by
  have hb := hI.1
  intro n
  induction n with
  | zero =>
    intro fu k A hk hn hf
    obtain ⟨fu, rfl⟩ : ∃ m, fu = m + 1 := ⟨fu - 1, by omega⟩
    simp (disch := omega) only [f_X9_aheadOf_L4, z_c0, z_c1, z_c1531, z_c1882, y_c0_, z_add, z_sub, z_neg, y_neg, z_mul, z_div, z_l, y_i, y_add, y_sub, y_mul, y_div, z_lt, z_le, z_eq, y_c1, y_c2, y_c3, y_c4, y_c5, z_gi, bd1_s, bd2_s, mul30, z_ofNat, lt_eq, sumR, Int.add_zero, hM.rd]
    rw [if_pos (by omega)]
  | succ n ih =>
    intro fu k A hk hn hf
    obtain ⟨fu, rfl⟩ : ∃ m, fu = m + 1 := ⟨fu - 1, by omega⟩
    have hs := (hI.2.2 k hk (by omega)).2.2.2.1
    have hbf := m_before (mM := mM) hM hIB hI hp hk (by omega) o1 o2
    have hj := ih fu (k + 1) (A + (if stF v k = 0 then befF v k o else 0)) (by omega) (by omega) (by omega)
    rw [Int.add_assoc] at hj
    simp (disch := omega) only [f_X9_aheadOf_L4, f_X9_aheadOf_b45, z_c0, z_c1, z_c1531, z_c1882, y_c0_, z_add, z_sub, z_neg, y_neg, z_mul, z_div, z_l, y_i, y_add, y_sub, y_mul, y_div, z_lt, z_le, z_eq, y_c1, y_c2, y_c3, y_c4, y_c5, z_gi, bd1_s, bd2_s, mul30, z_ofNat, lt_eq, sumR, hM.rd, hbf]
    rw [if_neg (by omega), ← hj]
    show (if v (1531 + k) = 0 then _ else _) = f_X9_aheadOf_L4 (zI o) mM nM fu (zI (A + (if v (1531 + k) = 0 then befF v k o else 0))) (zI (k + 1))
    by_cases z : v (1531 + k) = 0
    · rw [if_pos z, if_pos z]
      rcases befF_01 v k o with q | q
      · rw [q, if_pos (by rfl), Int.add_zero]
      · rw [q, if_neg (by decide)]
    · rw [if_neg z, if_neg z, Int.add_zero]
theorem m_ahead {mM : Mem} {nM : MemL} {sv tv : Nat → Int64} {v : VI} {T : Int} (hM : MR nM v sv tv) (hIB : IB T v) (hI : IOr v) (hp : 0 ≤ v 2 ∧ v 2 ≤ 3) {o : Int} (o1 : 0 ≤ o) (o2 : o < v 1882) : f_X9_aheadOf (zI o) mM nM = some (zI (ahF v o)) := by
  have hb := hI.1
  have := m_ahead4 (mM := mM) hM hIB hI hp o1 o2 (v 1882).toNat fuel 0 0 (by omega) (by omega) (fuel_gt (by omega))
  unfold f_X9_aheadOf
  rw [z_c0, this, Int.zero_add]
  rfl
theorem m_open4 {mM : Mem} {nM : MemL} {sv tv : Nat → Int64} {v : VI} (hM : MR nM v sv tv) (hI : IOr v) : ∀ (n fu k : Nat), k + n = (v 1882).toNat → n < fu →
    f_X9_openMany_L4 mM nM fu (zI (cntZ (stF v) k)) (zI k) = some (zI (openC v)) := by
  have hb := hI.1
  intro n
  induction n with
  | zero =>
    intro fu k hn hf
    obtain ⟨fu, rfl⟩ : ∃ m, fu = m + 1 := ⟨fu - 1, by omega⟩
    simp (disch := omega) only [f_X9_openMany_L4, z_c0, z_c1, z_c1531, z_c1882, y_c0_, z_add, z_sub, z_neg, y_neg, z_mul, z_div, z_l, y_i, y_add, y_sub, y_mul, y_div, z_lt, z_le, z_eq, y_c1, y_c2, y_c3, y_c4, y_c5, z_gi, bd1_s, bd2_s, mul30, z_ofNat, lt_eq, hM.rd]
    rw [if_pos (by omega)]
    unfold openC
    rw [show (v 1882).toNat = k by omega]
  | succ n ih =>
    intro fu k hn hf
    obtain ⟨fu, rfl⟩ : ∃ m, fu = m + 1 := ⟨fu - 1, by omega⟩
    have hs := (hI.2.2 k (by omega) (by omega)).2.2.2.1
    have hj := ih fu (k + 1) (by omega) (by omega)
    rw [show ((k + 1 : Nat) : Int) = (k : Int) + 1 by omega] at hj
    simp (disch := omega) only [f_X9_openMany_L4, f_X9_openMany_b39, z_c0, z_c1, z_c1531, z_c1882, y_c0_, z_add, z_sub, z_neg, y_neg, z_mul, z_div, z_l, y_i, y_add, y_sub, y_mul, y_div, z_lt, z_le, z_eq, y_c1, y_c2, y_c3, y_c4, y_c5, z_gi, bd1_s, bd2_s, mul30, z_ofNat, lt_eq, hM.rd]
    rw [if_neg (by omega), ← hj]
    have e : cntZ (stF v) (k + 1) = cntZ (stF v) k + (if v (1531 + k) = 0 then 1 else 0) := rfl
    rw [e]
    by_cases z : v (1531 + k) = 0
    · rw [if_pos z, if_pos z]
    · rw [if_neg z, if_neg z]
theorem m_openMany {mM : Mem} {nM : MemL} {sv tv : Nat → Int64} {v : VI} (hM : MR nM v sv tv) (hI : IOr v) : f_X9_openMany mM nM = some (zI (openC v)) := by
  have hb := hI.1
  unfold f_X9_openMany
  exact m_open4 hM hI (v 1882).toNat fuel 0 (by omega) (fuel_gt (by omega))
theorem s_obef6 {mB mO : Mem} {v : VI} {T : Int} (hB : RB mB v) (hIB : IB T v) (hO : RO mO v) (hI : IOr v) (hp : 0 ≤ v 2 ∧ v 2 ≤ 3) {o : Int} (o1 : 0 ≤ o) (o2 : o < v 1882) : ∀ (n fu : Nat) (i A : Int), 0 ≤ i → i + n = openC v → n < fu →
    f_X3_openBefore_L6 (zI o) (zI (v 2)) mB mO fu (zI A) (zI i) = some (zI (A + sumR (fun i => befF v (ordN v i) o) n i)) := by
  have hb := hI.1
  have h20 := hI.2.1
  intro n
  induction n with
  | zero =>
    intro fu k A hk hn hf
    obtain ⟨fu, rfl⟩ : ∃ m, fu = m + 1 := ⟨fu - 1, by omega⟩
    simp (disch := omega) only [f_X3_openBefore_L6, z_c0, z_c1, z_add, z_sub, z_neg, y_neg, z_mul, z_div, z_l, y_i, y_add, y_sub, y_mul, y_div, z_lt, z_le, z_eq, y_c1, y_c2, y_c3, y_c4, y_c5, z_gi, bd1_s, bd2_s, mul30, z_ofNat, lt_eq, sumR, Int.add_zero, hO.2.1]
    rw [if_pos (by omega)]
  | succ n ih =>
    intro fu k A hk hn hf
    obtain ⟨fu, rfl⟩ : ∃ m, fu = m + 1 := ⟨fu - 1, by omega⟩
    have ho := ordN_in hI hk (by omega)
    have hop := hO.opn hk (by omega)
    have hbf := s_before hB hIB hO hI hp ho.1 ho.2.1 o1 o2
    have hj := ih fu (k + 1) (A + befF v (ordN v k) o) (by omega) (by omega) (by omega)
    rw [Int.add_assoc] at hj
    simp (disch := omega) only [f_X3_openBefore_L6, f_X3_openBefore_b35, z_c0, z_c1, z_add, z_sub, z_neg, y_neg, z_mul, z_div, z_l, y_i, y_add, y_sub, y_mul, y_div, z_lt, z_le, z_eq, y_c1, y_c2, y_c3, y_c4, y_c5, z_gi, bd1_s, bd2_s, mul30, z_ofNat, lt_eq, sumR, hO.2.1, hop, hbf]
    rw [if_neg (by omega), ← hj]
    rcases befF_01 v (ordN v k) o with q | q
    · rw [q, if_pos (by rfl), Int.add_zero]
    · rw [q, if_neg (by decide)]
theorem s_openBefore {mB mO : Mem} {v : VI} {T : Int} (hB : RB mB v) (hIB : IB T v) (hO : RO mO v) (hI : IOr v) (hp : 0 ≤ v 2 ∧ v 2 ≤ 3) {o : Int} (o1 : 0 ≤ o) (o2 : o < v 1882) : f_X3_openBefore (zI o) (zI (v 2)) mB mO = some (zI (ahF v o)) := by
  have hc := openC_0 v
  have := s_obef6 hB hIB hO hI hp o1 o2 (openC v).toNat fuel 0 0 (by omega) (by omega) (fuel_gt (by have := hI.2.1; omega))
  unfold f_X3_openBefore
  rw [z_c0, this, Int.zero_add]
  unfold ahF openC
  rw [← sumR_nth (f := stF v) (g := fun k => befF v k o)]
  rfl
theorem s_openOf4 {mO : Mem} {v : VI} (hO : RO mO v) (hI : IOr v) {b : Int} (b1 : -2147483648 ≤ b) (b2 : b < 2147483648) (h8 : v 1881 ≤ 8) : ∀ (n fu : Nat) (i A : Int), 0 ≤ i → i + n = openC v → n < fu →
    f_X3_openOf_L4 (zI b) mO fu (zI A) (zI i) = some (zI (A + sumR (fun i => if v (531 + ordN v i) = b then 1 else 0) n i)) := by
  have hb := hI.1
  have h20 := hI.2.1
  intro n
  induction n with
  | zero =>
    intro fu k A hk hn hf
    obtain ⟨fu, rfl⟩ : ∃ m, fu = m + 1 := ⟨fu - 1, by omega⟩
    simp (disch := omega) only [f_X3_openOf_L4, z_c1, z_add, z_sub, z_neg, y_neg, z_mul, z_div, z_l, y_i, y_add, y_sub, y_mul, y_div, z_lt, z_le, z_eq, y_c1, y_c2, y_c3, y_c4, y_c5, z_gi, bd1_s, bd2_s, mul30, z_ofNat, lt_eq, sumR, Int.add_zero, hO.2.1]
    rw [if_pos (by omega)]
  | succ n ih =>
    intro fu k A hk hn hf
    obtain ⟨fu, rfl⟩ : ∃ m, fu = m + 1 := ⟨fu - 1, by omega⟩
    have ho := ordN_in hI hk (by omega)
    have hop := hO.opn hk (by omega)
    have hbu := ((hI.2.2 (ordN v k) ho.1 (by omega)).2.2.2.2.2 ho.2.1).1
    have hj := ih fu (k + 1) (A + (if v (531 + ordN v k) = b then 1 else 0)) (by omega) (by omega) (by omega)
    rw [Int.add_assoc] at hj
    have hva := s_valueIn (n := 200) hO.2.2.1 (by omega) ho.1 (show ordN v k < ((200 : Nat) : Int) by omega)
    simp (disch := omega) only [f_X3_openOf_L4, f_X3_openOf_b32, z_c1, z_add, z_sub, z_neg, y_neg, z_mul, z_div, z_l, y_i, y_add, y_sub, y_mul, y_div, z_lt, z_le, z_eq, y_c1, y_c2, y_c3, y_c4, y_c5, z_gi, bd1_s, bd2_s, mul30, z_ofNat, lt_eq, sumR, hO.2.1, hop, hva]
    rw [if_neg (by omega), ← hj]
    by_cases q : v (531 + ordN v k) = b
    · rw [if_pos q, if_pos q]
    · rw [if_neg q, if_neg q, Int.add_zero]
def opOf (v : VI) (b : Int) : Int := sumR (fun k => if stF v k = 0 then (if v (531 + k) = b then 1 else 0) else 0) (v 1882).toNat 0
theorem s_openOf {mO : Mem} {v : VI} (hO : RO mO v) (hI : IOr v) {b : Int} (b1 : -2147483648 ≤ b) (b2 : b < 2147483648) (h8 : v 1881 ≤ 8) : f_X3_openOf (zI b) mO = some (zI (opOf v b)) := by
  have hc := openC_0 v
  have := s_openOf4 hO hI b1 b2 h8 (openC v).toNat fuel 0 0 (by omega) (by omega) (fuel_gt (by have := hI.2.1; omega))
  unfold f_X3_openOf
  rw [z_c0, this, Int.zero_add]
  unfold opOf openC
  rw [← sumR_nth (f := stF v) (g := fun k => if v (531 + k) = b then 1 else 0)]
  rfl
theorem m_openOf4 {mM : Mem} {nM : MemL} {sv tv : Nat → Int64} {v : VI} (hM : MR nM v sv tv) (hI : IOr v) {b : Int} (b1 : -2147483648 ≤ b) (b2 : b < 2147483648) (h8 : v 1881 ≤ 8) : ∀ (n fu : Nat) (k A : Int), 0 ≤ k → k + n = v 1882 → n < fu →
    f_X9_openOf_L4 (zI b) mM nM fu (zI A) (zI k) = some (zI (A + sumR (fun k => if stF v k = 0 then (if v (531 + k) = b then 1 else 0) else 0) n k)) := by
  have hb := hI.1
  intro n
  induction n with
  | zero =>
    intro fu k A hk hn hf
    obtain ⟨fu, rfl⟩ : ∃ m, fu = m + 1 := ⟨fu - 1, by omega⟩
    simp (disch := omega) only [f_X9_openOf_L4, z_c0, z_c1, z_c531, z_c1531, z_c1882, y_c0_, z_add, z_sub, z_neg, y_neg, z_mul, z_div, z_l, y_i, y_add, y_sub, y_mul, y_div, z_lt, z_le, z_eq, y_c1, y_c2, y_c3, y_c4, y_c5, z_gi, bd1_s, bd2_s, mul30, z_ofNat, lt_eq, sumR, Int.add_zero, hM.rd]
    rw [if_pos (by omega)]
  | succ n ih =>
    intro fu k A hk hn hf
    obtain ⟨fu, rfl⟩ : ∃ m, fu = m + 1 := ⟨fu - 1, by omega⟩
    have hs := (hI.2.2 k hk (by omega)).2.2.2.1
    have hbu := ((hI.2.2 k hk (by omega)).2.2.2.2.2 (by omega)).1
    have hj := ih fu (k + 1) (A + (if stF v k = 0 then (if v (531 + k) = b then 1 else 0) else 0)) (by omega) (by omega) (by omega)
    rw [Int.add_assoc] at hj
    simp (disch := omega) only [f_X9_openOf_L4, f_X9_openOf_b54, f_X9_openOf_b55, z_c0, z_c1, z_c531, z_c1531, z_c1882, y_c0_, z_add, z_sub, z_neg, y_neg, z_mul, z_div, z_l, y_i, y_add, y_sub, y_mul, y_div, z_lt, z_le, z_eq, y_c1, y_c2, y_c3, y_c4, y_c5, z_gi, bd1_s, bd2_s, mul30, z_ofNat, lt_eq, sumR, hM.rd]
    rw [if_neg (by omega), ← hj]
    show (if v (1531 + k) = 0 then _ else _) = f_X9_openOf_L4 (zI b) mM nM fu (zI (A + (if v (1531 + k) = 0 then (if v (531 + k) = b then 1 else 0) else 0))) (zI (k + 1))
    by_cases z : v (1531 + k) = 0
    · rw [if_pos z, if_pos z]
      by_cases q : v (531 + k) = b
      · rw [if_pos q, if_pos q]
      · rw [if_neg q, if_neg q]
    · rw [if_neg z, if_neg z]
theorem m_openOf {mM : Mem} {nM : MemL} {sv tv : Nat → Int64} {v : VI} (hM : MR nM v sv tv) (hI : IOr v) {b : Int} (b1 : -2147483648 ≤ b) (b2 : b < 2147483648) (h8 : v 1881 ≤ 8) : f_X9_openOf (zI b) mM nM = some (zI (opOf v b)) := by
  have hb := hI.1
  have := m_openOf4 (mM := mM) hM hI b1 b2 h8 (v 1882).toNat fuel 0 0 (by omega) (by omega) (fuel_gt (by omega))
  unfold f_X9_openOf
  rw [z_c0, this, Int.zero_add]
  rfl
