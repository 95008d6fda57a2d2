/-! sums over the silos, on both sides -/
def rowSum (v : VI) (b s : Int) : Int := sumR (fun j => v (b + (30 * s + j))) (v (47 + s)).toNat 0
def massS (v : VI) (n : Nat) (s : Int) : Int := sumR (fun s => rowSum v 207 s) n s
def storedF (v : VI) : Int := massS v (v 1880).toNat 0
def agesF (v : VI) : Int := sumR (fun s => rowSum v 357 s) (v 1880).toNat 0
def blocksF (v : VI) : Int := sumR (fun s => v (47 + s)) (v 1880).toNat 0
def meltedF (v : VI) : Int := sumR (fun s => v (52 + s)) (v 1880).toNat 0
theorem s_sum34 {mS : Mem} {T : Int} {v : VI} (h : RS mS v) (hI : IS T v) {s : Int} (h1 : 0 ≤ s) (h2 : s < v 1880) (e3 : Int32) (kk : Int32 → Int32 → Option Int32) : ∀ (n fu : Nat) (k A : Int), 0 ≤ k → k + n = v (47 + s) → n < fu →
    f_X6_sumOf_S8_L34 kk e3 (zI s) (zI (30 * s + v (47 + s))) mS fu (zI A) (zI (30 * s + k)) = kk (zI (A + sumR (fun j => v (207 + (30 * s + j))) n k)) (zI (s + 1)) := by
  have hb := hI.1
  have hz := hI.sz (s := s) (by omega) (by omega)
  intro n
  induction n with
  | zero =>
    intro fu k A hk hn hf
    obtain ⟨fu, rfl⟩ : ∃ m, fu = m + 1 := ⟨fu - 1, by omega⟩
    simp (disch := omega) only [f_X6_sumOf_S8_L34, z_c1, z_add, z_sub, z_neg, y_neg, z_mul, z_div, z_l, y_i, y_add, y_sub, y_mul, y_div, z_lt, z_le, z_eq, y_c1, y_c2, y_c3, y_c4, y_c5, z_gi, bd1_s, bd2_s, mul30, z_ofNat, lt_eq, sumR, Int.add_zero]
    rw [if_pos (by omega)]
  | succ n ih =>
    intro fu k A hk hn hf
    obtain ⟨fu, rfl⟩ : ∃ m, fu = m + 1 := ⟨fu - 1, by omega⟩
    have hrk := h.blk (s := s) (k := k) (by omega) (by omega) hk (by omega)
    have hi := ih fu (k + 1) (A + v (207 + (30 * s + k))) (by omega) (by omega) (by omega)
    simp (disch := omega) only [f_X6_sumOf_S8_L34, z_c1, z_add, z_sub, z_neg, y_neg, z_mul, z_div, z_l, y_i, y_add, y_sub, y_mul, y_div, z_lt, z_le, z_eq, y_c1, y_c2, y_c3, y_c4, y_c5, z_gi, bd1_s, bd2_s, mul30, z_ofNat, lt_eq, sumR, hrk.2.1]
    rw [if_neg (by omega), show 30 * s + k + 1 = 30 * s + (k + 1) by omega, hi, Int.add_assoc]
theorem s_sum34a {mS : Mem} {T : Int} {v : VI} (h : RS mS v) (hI : IS T v) {s : Int} (h1 : 0 ≤ s) (h2 : s < v 1880) (e3 : Int32) (kk : Int32 → Int32 → Option Int32) : ∀ (n fu : Nat) (k A : Int), 0 ≤ k → k + n = v (47 + s) → n < fu →
    f_X6_sumOf_S9_L34 kk e3 (zI s) (zI (30 * s + v (47 + s))) mS fu (zI A) (zI (30 * s + k)) = kk (zI (A + sumR (fun j => v (357 + (30 * s + j))) n k)) (zI (s + 1)) := by
  have hb := hI.1
  have hz := hI.sz (s := s) (by omega) (by omega)
  intro n
  induction n with
  | zero =>
    intro fu k A hk hn hf
    obtain ⟨fu, rfl⟩ : ∃ m, fu = m + 1 := ⟨fu - 1, by omega⟩
    simp (disch := omega) only [f_X6_sumOf_S9_L34, z_c1, z_add, z_sub, z_neg, y_neg, z_mul, z_div, z_l, y_i, y_add, y_sub, y_mul, y_div, z_lt, z_le, z_eq, y_c1, y_c2, y_c3, y_c4, y_c5, z_gi, bd1_s, bd2_s, mul30, z_ofNat, lt_eq, sumR, Int.add_zero]
    rw [if_pos (by omega)]
  | succ n ih =>
    intro fu k A hk hn hf
    obtain ⟨fu, rfl⟩ : ∃ m, fu = m + 1 := ⟨fu - 1, by omega⟩
    have hrk := h.blk (s := s) (k := k) (by omega) (by omega) hk (by omega)
    have hi := ih fu (k + 1) (A + v (357 + (30 * s + k))) (by omega) (by omega) (by omega)
    simp (disch := omega) only [f_X6_sumOf_S9_L34, z_c1, z_add, z_sub, z_neg, y_neg, z_mul, z_div, z_l, y_i, y_add, y_sub, y_mul, y_div, z_lt, z_le, z_eq, y_c1, y_c2, y_c3, y_c4, y_c5, z_gi, bd1_s, bd2_s, mul30, z_ofNat, lt_eq, sumR, hrk.2.2]
    rw [if_neg (by omega), show 30 * s + k + 1 = 30 * s + (k + 1) by omega, hi, Int.add_assoc]
theorem s_sum6 {mS : Mem} {T : Int} {v : VI} (h : RS mS v) (hI : IS T v) {e : Int} (he : e ≤ v 1880) : ∀ (n fu : Nat) (s A : Int), 0 ≤ s → s + n = e → n < fu →
    f_X6_sumOf_S8_L6 (zI e) mS fu (zI A) (zI s) = some (zI (A + massS v n s)) := by
  have hb := hI.1
  intro n
  unfold massS
  induction n with
  | zero =>
    intro fu s A hk hn hf
    obtain ⟨fu, rfl⟩ : ∃ m, fu = m + 1 := ⟨fu - 1, by omega⟩
    simp (disch := omega) only [f_X6_sumOf_S8_L6, z_c30, z_add, z_sub, z_neg, y_neg, z_mul, z_div, z_l, y_i, y_add, y_sub, y_mul, y_div, z_lt, z_le, z_eq, y_c1, y_c2, y_c3, y_c4, y_c5, z_gi, bd1_s, bd2_s, mul30, z_ofNat, lt_eq, sumR, Int.add_zero]
    rw [if_pos (by omega)]
  | succ n ih =>
    intro fu s A hk hn hf
    obtain ⟨fu, rfl⟩ : ∃ m, fu = m + 1 := ⟨fu - 1, by omega⟩
    have hz := hI.sz (s := s) (by omega) (by omega)
    have hi := s_sum34 h hI (s := s) hk (by omega) (zI e) (f_X6_sumOf_S8_L6 (zI e) mS fu) (v (47 + s)).toNat fuel 0 A (by omega) (by omega) (fuel_gt (by omega))
    rw [Int.add_zero] at hi
    have hj := ih fu (s + 1) (A + rowSum v 207 s) (by omega) (by omega) (by omega)
    simp (disch := omega) only [f_X6_sumOf_S8_L6, z_c30, z_add, z_sub, z_neg, y_neg, z_mul, z_div, z_l, y_i, y_add, y_sub, y_mul, y_div, z_lt, z_le, z_eq, y_c1, y_c2, y_c3, y_c4, y_c5, z_gi, bd1_s, bd2_s, mul30, z_ofNat, lt_eq, sumR, h.sz]
    rw [if_neg (by omega), hi]
    exact hj.trans (by rw [Int.add_assoc])
theorem s_sum6a {mS : Mem} {T : Int} {v : VI} (h : RS mS v) (hI : IS T v) {e : Int} (he : e ≤ v 1880) : ∀ (n fu : Nat) (s A : Int), 0 ≤ s → s + n = e → n < fu →
    f_X6_sumOf_S9_L6 (zI e) mS fu (zI A) (zI s) = some (zI (A + sumR (fun s => rowSum v 357 s) n s)) := by
  have hb := hI.1
  intro n
  induction n with
  | zero =>
    intro fu s A hk hn hf
    obtain ⟨fu, rfl⟩ : ∃ m, fu = m + 1 := ⟨fu - 1, by omega⟩
    simp (disch := omega) only [f_X6_sumOf_S9_L6, z_c30, z_add, z_sub, z_neg, y_neg, z_mul, z_div, z_l, y_i, y_add, y_sub, y_mul, y_div, z_lt, z_le, z_eq, y_c1, y_c2, y_c3, y_c4, y_c5, z_gi, bd1_s, bd2_s, mul30, z_ofNat, lt_eq, sumR, Int.add_zero]
    rw [if_pos (by omega)]
  | succ n ih =>
    intro fu s A hk hn hf
    obtain ⟨fu, rfl⟩ : ∃ m, fu = m + 1 := ⟨fu - 1, by omega⟩
    have hz := hI.sz (s := s) (by omega) (by omega)
    have hi := s_sum34a h hI (s := s) hk (by omega) (zI e) (f_X6_sumOf_S9_L6 (zI e) mS fu) (v (47 + s)).toNat fuel 0 A (by omega) (by omega) (fuel_gt (by omega))
    rw [Int.add_zero] at hi
    have hj := ih fu (s + 1) (A + rowSum v 357 s) (by omega) (by omega) (by omega)
    simp (disch := omega) only [f_X6_sumOf_S9_L6, z_c30, z_add, z_sub, z_neg, y_neg, z_mul, z_div, z_l, y_i, y_add, y_sub, y_mul, y_div, z_lt, z_le, z_eq, y_c1, y_c2, y_c3, y_c4, y_c5, z_gi, bd1_s, bd2_s, mul30, z_ofNat, lt_eq, sumR, h.sz]
    rw [if_neg (by omega), hi]
    exact hj.trans (by rw [Int.add_assoc])
theorem s_mass {mS : Mem} {T : Int} {v : VI} (h : RS mS v) (hI : IS T v) : f_X6_mass mS = some (zI (storedF v)) := by
  have hb := hI.1
  have hi := s_sum6 h hI (Int.le_refl _) (v 1880).toNat fuel 0 0 (by omega) (by omega) (fuel_gt (by omega))
  unfold f_X6_mass f_X6_sumOf_S8
  rw [h.1, z_c0, hi, Int.zero_add]
  rfl
theorem s_sumOfAges {mS : Mem} {T : Int} {v : VI} (h : RS mS v) (hI : IS T v) : f_X6_sumOfAges mS = some (zI (agesF v)) := by
  have hb := hI.1
  have hi := s_sum6a h hI (Int.le_refl _) (v 1880).toNat fuel 0 0 (by omega) (by omega) (fuel_gt (by omega))
  unfold f_X6_sumOfAges f_X6_sumOf_S9
  rw [h.1, z_c0, hi, Int.zero_add]
  rfl
theorem s_massOne {mS : Mem} {T : Int} {v : VI} (h : RS mS v) (hI : IS T v) {s : Int} (h1 : 0 ≤ s) (h2 : s < v 1880) : f_X6_sumOf_S8 (zI s) (zI (s + 1)) mS = some (zI (rowSum v 207 s)) := by
  have hi := s_sum6 h hI (e := s + 1) (by omega) 1 fuel s 0 (by omega) (by omega) (fuel_gt (by omega))
  unfold f_X6_sumOf_S8
  rw [z_c0, hi, Int.zero_add]
  simp only [massS, sumR, Int.add_zero]
theorem s_blocks4 {mS : Mem} {T : Int} {v : VI} (h : RS mS v) (hI : IS T v) : ∀ (n fu : Nat) (s A : Int), 0 ≤ s → s + n = v 1880 → n < fu →
    f_X6_blocks_L4 mS fu (zI A) (zI s) = some (zI (A + sumR (fun s => v (47 + s)) n s)) := by
  have hb := hI.1
  intro n
  induction n with
  | zero =>
    intro fu s A hk hn hf
    obtain ⟨fu, rfl⟩ : ∃ m, fu = m + 1 := ⟨fu - 1, by omega⟩
    simp (disch := omega) only [f_X6_blocks_L4, z_c1, z_add, z_sub, z_neg, y_neg, z_mul, z_div, z_l, y_i, y_add, y_sub, y_mul, y_div, z_lt, z_le, z_eq, y_c1, y_c2, y_c3, y_c4, y_c5, z_gi, bd1_s, bd2_s, mul30, z_ofNat, lt_eq, sumR, Int.add_zero, h.1]
    rw [if_pos (by omega)]
  | succ n ih =>
    intro fu s A hk hn hf
    obtain ⟨fu, rfl⟩ : ∃ m, fu = m + 1 := ⟨fu - 1, by omega⟩
    have hj := ih fu (s + 1) (A + v (47 + s)) (by omega) (by omega) (by omega)
    simp (disch := omega) only [f_X6_blocks_L4, z_c1, z_add, z_sub, z_neg, y_neg, z_mul, z_div, z_l, y_i, y_add, y_sub, y_mul, y_div, z_lt, z_le, z_eq, y_c1, y_c2, y_c3, y_c4, y_c5, z_gi, bd1_s, bd2_s, mul30, z_ofNat, lt_eq, sumR, h.1, h.sz]
    rw [if_neg (by omega), hj, Int.add_assoc]
theorem s_blocks {mS : Mem} {T : Int} {v : VI} (h : RS mS v) (hI : IS T v) : f_X6_blocks mS = some (zI (blocksF v)) := by
  have hb := hI.1
  have hi := s_blocks4 h hI (v 1880).toNat fuel 0 0 (by omega) (by omega) (fuel_gt (by omega))
  unfold f_X6_blocks
  rw [z_c0, hi, Int.zero_add]
  rfl
theorem s_melted4 {mS : Mem} {T : Int} {v : VI} (h : RS mS v) (hI : IS T v) : ∀ (n fu : Nat) (s A : Int), 0 ≤ s → s + n = v 1880 → n < fu →
    f_X6_meltedMass_L4 mS fu (zI A) (zI s) = some (zI (A + sumR (fun s => v (52 + s)) n s)) := by
  have hb := hI.1
  intro n
  induction n with
  | zero =>
    intro fu s A hk hn hf
    obtain ⟨fu, rfl⟩ : ∃ m, fu = m + 1 := ⟨fu - 1, by omega⟩
    simp (disch := omega) only [f_X6_meltedMass_L4, z_c1, z_add, z_sub, z_neg, y_neg, z_mul, z_div, z_l, y_i, y_add, y_sub, y_mul, y_div, z_lt, z_le, z_eq, y_c1, y_c2, y_c3, y_c4, y_c5, z_gi, bd1_s, bd2_s, mul30, z_ofNat, lt_eq, sumR, Int.add_zero, h.1]
    rw [if_pos (by omega)]
  | succ n ih =>
    intro fu s A hk hn hf
    obtain ⟨fu, rfl⟩ : ∃ m, fu = m + 1 := ⟨fu - 1, by omega⟩
    have hj := ih fu (s + 1) (A + v (52 + s)) (by omega) (by omega) (by omega)
    simp (disch := omega) only [f_X6_meltedMass_L4, z_c1, z_add, z_sub, z_neg, y_neg, z_mul, z_div, z_l, y_i, y_add, y_sub, y_mul, y_div, z_lt, z_le, z_eq, y_c1, y_c2, y_c3, y_c4, y_c5, z_gi, bd1_s, bd2_s, mul30, z_ofNat, lt_eq, sumR, h.1, h.mel]
    rw [if_neg (by omega), hj, Int.add_assoc]
theorem s_melted {mS : Mem} {T : Int} {v : VI} (h : RS mS v) (hI : IS T v) : f_X6_meltedMass mS = some (zI (meltedF v)) := by
  have hb := hI.1
  have hi := s_melted4 h hI (v 1880).toNat fuel 0 0 (by omega) (by omega) (fuel_gt (by omega))
  unfold f_X6_meltedMass
  rw [z_c0, hi, Int.zero_add]
  rfl
/-! the reference's -/
theorem m_in {a b c : Int} (h1 : -9223372036854775808 ≤ a) (h2 : a < 9223372036854775808) (h3 : -9223372036854775808 ≤ b) (h4 : b < 9223372036854775808) (h5 : -9223372036854775808 ≤ c) (h6 : c < 9223372036854775808) : f_X9_in (zL a) (zL b) (zL c) = some (zI (if b ≤ a ∧ a ≤ c then 1 else 0)) := by
  simp (disch := omega) only [f_X9_in, z_c0, z_c1, z_add, z_sub, z_neg, y_neg, z_mul, z_div, z_l, y_i, y_add, y_sub, y_mul, y_div, z_lt, z_le, z_eq, y_c1, y_c2, y_c3, y_c4, y_c5, z_gi, bd1_s, bd2_s, mul30, z_ofNat, lt_eq]
  repeat' split
  all_goals first | rfl | (exfalso; omega)
theorem zI01 {c : Prop} [Decidable c] : zI (if c then 1 else 0) = 0 ∨ zI (if c then 1 else 0) = 1 := by
  split
  · exact Or.inr rfl
  · exact Or.inl rfl
theorem m_isSilo {mM : Mem} {nM : MemL} {sv tv : Nat → Int64} {T : Int} {v : VI} (hM : MR nM v sv tv) (hI : IS T v) {a : Int} (h1 : -2147483648 ≤ a) (h2 : a < 2147483648) : f_X9_isSilo (zI a) mM nM = some (zI (if 0 ≤ a ∧ a < v 1880 then 1 else 0)) := by
  have hb := hI.1
  simp (disch := omega) only [f_X9_isSilo, z_c1880, y_c0_, y_c1_, z_add, z_sub, z_neg, y_neg, z_mul, z_div, z_l, y_i, y_add, y_sub, y_mul, y_div, z_lt, z_le, z_eq, y_c1, y_c2, y_c3, y_c4, y_c5, z_gi, bd1_s, bd2_s, mul30, z_ofNat, lt_eq, hM.rd, m_in]
  rw [gb_s zI01]
  repeat' split
  all_goals first | rfl | (exfalso; omega)
theorem m_stored21 {mM : Mem} {nM : MemL} {sv tv : Nat → Int64} {T : Int} {v : VI} (hM : MR nM v sv tv) (hI : IS T v) {s : Int} (h1 : 0 ≤ s) (h2 : s < v 1880) (kk : Int64 → Int32 → Option Int64) : ∀ (n fu : Nat) (k A : Int), 0 ≤ k → k + n = v (47 + s) → n < fu →
    f_X9_stored_L21 kk (zI s) mM nM fu (zL A) (zI k) = kk (zL (A + sumR (fun j => v (207 + (30 * s + j))) n k)) (zI (s + 1)) := by
  have hb := hI.1
  have hz := hI.sz (s := s) (by omega) (by omega)
  intro n
  induction n with
  | zero =>
    intro fu k A hk hn hf
    obtain ⟨fu, rfl⟩ : ∃ m, fu = m + 1 := ⟨fu - 1, by omega⟩
    simp (disch := omega) only [f_X9_stored_L21, z_c0, z_c1, z_c30, z_c47, z_c207, z_add, z_sub, z_neg, y_neg, z_mul, z_div, z_l, y_i, y_add, y_sub, y_mul, y_div, z_lt, z_le, z_eq, y_c1, y_c2, y_c3, y_c4, y_c5, z_gi, bd1_s, bd2_s, mul30, z_ofNat, lt_eq, sumR, Int.add_zero, hM.rd]
    rw [if_pos (by omega)]
  | succ n ih =>
    intro fu k A hk hn hf
    obtain ⟨fu, rfl⟩ : ∃ m, fu = m + 1 := ⟨fu - 1, by omega⟩
    have hi := ih fu (k + 1) (A + v (207 + (30 * s + k))) (by omega) (by omega) (by omega)
    simp (disch := omega) only [f_X9_stored_L21, z_c0, z_c1, z_c30, z_c47, z_c207, z_add, z_sub, z_neg, y_neg, z_mul, z_div, z_l, y_i, y_add, y_sub, y_mul, y_div, z_lt, z_le, z_eq, y_c1, y_c2, y_c3, y_c4, y_c5, z_gi, bd1_s, bd2_s, mul30, z_ofNat, lt_eq, sumR, hM.rd, Int.add_assoc] at hi ⊢
    rw [if_neg (by omega), hi]
theorem m_stored4 {mM : Mem} {nM : MemL} {sv tv : Nat → Int64} {T : Int} {v : VI} (hM : MR nM v sv tv) (hI : IS T v) : ∀ (n fu : Nat) (s A : Int), 0 ≤ s → s + n = v 1880 → n < fu →
    f_X9_stored_L4 mM nM fu (zL A) (zI s) = some (zL (A + massS v n s)) := by
  have hb := hI.1
  intro n
  unfold massS
  induction n with
  | zero =>
    intro fu s A hk hn hf
    obtain ⟨fu, rfl⟩ : ∃ m, fu = m + 1 := ⟨fu - 1, by omega⟩
    simp (disch := omega) only [f_X9_stored_L4, z_c0, z_c1880, z_add, z_sub, z_neg, y_neg, z_mul, z_div, z_l, y_i, y_add, y_sub, y_mul, y_div, z_lt, z_le, z_eq, y_c1, y_c2, y_c3, y_c4, y_c5, z_gi, bd1_s, bd2_s, mul30, z_ofNat, lt_eq, sumR, Int.add_zero, hM.rd]
    rw [if_pos (by omega)]
  | succ n ih =>
    intro fu s A hk hn hf
    obtain ⟨fu, rfl⟩ : ∃ m, fu = m + 1 := ⟨fu - 1, by omega⟩
    have hz := hI.sz (s := s) (by omega) (by omega)
    have hi := m_stored21 (mM := mM) hM hI (s := s) hk (by omega) (f_X9_stored_L4 mM nM fu) (v (47 + s)).toNat fuel 0 A (by omega) (by omega) (fuel_gt (by omega))
    have hj := ih fu (s + 1) (A + rowSum v 207 s) (by omega) (by omega) (by omega)
    simp (disch := omega) only [f_X9_stored_L4, z_c0, z_c1880, z_add, z_sub, z_neg, y_neg, z_mul, z_div, z_l, y_i, y_add, y_sub, y_mul, y_div, z_lt, z_le, z_eq, y_c1, y_c2, y_c3, y_c4, y_c5, z_gi, bd1_s, bd2_s, mul30, z_ofNat, lt_eq, sumR, hM.rd]
    rw [if_neg (by omega), hi]
    exact hj.trans (by rw [Int.add_assoc])
theorem m_stored {mM : Mem} {nM : MemL} {sv tv : Nat → Int64} {T : Int} {v : VI} (hM : MR nM v sv tv) (hI : IS T v) : f_X9_stored mM nM = some (zL (storedF v)) := by
  have hb := hI.1
  have hi := m_stored4 (mM := mM) hM hI (v 1880).toNat fuel 0 0 (by omega) (by omega) (fuel_gt (by omega))
  unfold f_X9_stored
  rw [z_c0, y_c0_, hi, Int.zero_add]
  rfl
theorem m_blocks4 {mM : Mem} {nM : MemL} {sv tv : Nat → Int64} {T : Int} {v : VI} (hM : MR nM v sv tv) (hI : IS T v) : ∀ (n fu : Nat) (s A : Int), 0 ≤ s → s + n = v 1880 → n < fu →
    f_X9_blocks_L4 mM nM fu (zI A) (zI s) = some (zI (A + sumR (fun s => v (47 + s)) n s)) := by
  have hb := hI.1
  intro n
  induction n with
  | zero =>
    intro fu s A hk hn hf
    obtain ⟨fu, rfl⟩ : ∃ m, fu = m + 1 := ⟨fu - 1, by omega⟩
    simp (disch := omega) only [f_X9_blocks_L4, z_c0, z_c1, z_c47, z_c1880, z_add, z_sub, z_neg, y_neg, z_mul, z_div, z_l, y_i, y_add, y_sub, y_mul, y_div, z_lt, z_le, z_eq, y_c1, y_c2, y_c3, y_c4, y_c5, z_gi, bd1_s, bd2_s, mul30, z_ofNat, lt_eq, sumR, Int.add_zero, hM.rd]
    rw [if_pos (by omega)]
  | succ n ih =>
    intro fu s A hk hn hf
    obtain ⟨fu, rfl⟩ : ∃ m, fu = m + 1 := ⟨fu - 1, by omega⟩
    have hj := ih fu (s + 1) (A + v (47 + s)) (by omega) (by omega) (by omega)
    simp (disch := omega) only [f_X9_blocks_L4, z_c0, z_c1, z_c47, z_c1880, z_add, z_sub, z_neg, y_neg, z_mul, z_div, z_l, y_i, y_add, y_sub, y_mul, y_div, z_lt, z_le, z_eq, y_c1, y_c2, y_c3, y_c4, y_c5, z_gi, bd1_s, bd2_s, mul30, z_ofNat, lt_eq, sumR, hM.rd]
    rw [if_neg (by omega), hj, Int.add_assoc]
theorem m_blocks {mM : Mem} {nM : MemL} {sv tv : Nat → Int64} {T : Int} {v : VI} (hM : MR nM v sv tv) (hI : IS T v) : f_X9_blocks mM nM = some (zI (blocksF v)) := by
  have hb := hI.1
  have hi := m_blocks4 (mM := mM) hM hI (v 1880).toNat fuel 0 0 (by omega) (by omega) (fuel_gt (by omega))
  unfold f_X9_blocks
  rw [z_c0, hi, Int.zero_add]
  rfl
