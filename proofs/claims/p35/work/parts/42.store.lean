/-! reads of the silos, on both sides -/
theorem RS.sz {mS : Mem} {v : VI} (h : RS mS v) {s : Int} (h1 : 0 ≤ s) (h2 : s < 5) : mS 5 (zI s).toNatClampNeg = zI (v (47 + s)) := h.2.2.2.2.2.1 s h1 h2
theorem RS.cap {mS : Mem} {v : VI} (h : RS mS v) {s : Int} (h1 : 0 ≤ s) (h2 : s < 5) : mS 2 (zI s).toNatClampNeg = zI (v (32 + s)) := h.2.2.1 s h1 h2
theorem RS.rul {mS : Mem} {v : VI} (h : RS mS v) {s : Int} (h1 : 0 ≤ s) (h2 : s < 5) : mS 3 (zI s).toNatClampNeg = zI (v (37 + s)) := h.2.2.2.1 s h1 h2
theorem RS.str {mS : Mem} {v : VI} (h : RS mS v) {s : Int} (h1 : 0 ≤ s) (h2 : s < 5) : mS 4 (zI s).toNatClampNeg = zI (v (42 + s)) := h.2.2.2.2.1 s h1 h2
theorem RS.mel {mS : Mem} {v : VI} (h : RS mS v) {s : Int} (h1 : 0 ≤ s) (h2 : s < 5) : mS 6 (zI s).toNatClampNeg = zI (v (52 + s)) := h.2.2.2.2.2.2.1 s h1 h2
theorem RS.blk {mS : Mem} {v : VI} (h : RS mS v) {s k : Int} (h1 : 0 ≤ s) (h2 : s < 5) (h3 : 0 ≤ k) (h4 : k < v (47 + s)) : mS 7 (zI (30 * s + k)).toNatClampNeg = zI (v (57 + (30 * s + k))) ∧ mS 8 (zI (30 * s + k)).toNatClampNeg = zI (v (207 + (30 * s + k))) ∧ mS 9 (zI (30 * s + k)).toNatClampNeg = zI (v (357 + (30 * s + k))) := h.2.2.2.2.2.2.2 s k h1 h2 h3 h4
theorem IS.sz {T : Int} {v : VI} (h : IS T v) {s : Int} (h1 : 0 ≤ s) (h2 : s < 5) : 0 ≤ v (47 + s) ∧ v (47 + s) ≤ v (32 + s) ∧ v (32 + s) ≤ 30 := by
  have := h.2.2.1 s h1 h2; omega
theorem IS.blk {T : Int} {v : VI} (h : IS T v) {s k : Int} (h1 : 0 ≤ s) (h2 : s < 5) (h3 : 0 ≤ k) (h4 : k < v (47 + s)) : (0 ≤ v (57 + (30 * s + k)) ∧ v (57 + (30 * s + k)) < v 1887) ∧ (1 ≤ v (207 + (30 * s + k)) ∧ v (207 + (30 * s + k)) ≤ 200) ∧ (0 ≤ v (357 + (30 * s + k)) ∧ v (357 + (30 * s + k)) ≤ v 1875) := h.2.2.2 s k h1 h2 h3 h4
theorem s_hasSilo {mS : Mem} {T : Int} {v : VI} (h : RS mS v) (hI : IS T v) {a : Int} (h1 : -2147483648 ≤ a) (h2 : a < 2147483648) : f_X6_hasSilo (zI a) mS = some (zI (if 0 ≤ a ∧ a < v 1880 then 1 else 0)) := by
  have hb := hI.1
  simp (disch := omega) only [f_X6_hasSilo, z_c0, z_c1, z_add, z_sub, z_neg, y_neg, z_mul, z_div, z_l, y_i, y_add, y_sub, y_mul, y_div, z_lt, z_le, z_eq, y_c1, y_c2, y_c3, y_c4, y_c5, z_gi, bd1_s, bd2_s, mul30, z_ofNat, lt_eq, h.1]
  repeat' split
  all_goals first | rfl | (exfalso; omega)
theorem s_valueAt {n : Nat} {row : Nat → Int32} {g : VI} (h : Row n row g) (hn : (n : Int) < 2147483648) {a : Int} (h1 : -2147483648 ≤ a) (h2 : a < 2147483648) : f_X8_valueAt (zI a) n row = some (zI (if 0 ≤ a ∧ a < n then g a else 0)) := by
  unfold f_X8_valueAt
  simp (disch := omega) only [z_c0, z_ofNat, z_lt, z_le]
  by_cases c1 : a < 0
  · rw [if_pos c1, if_neg (by omega)]
  · rw [if_neg c1]
    by_cases c2 : (n : Int) ≤ a
    · rw [if_pos c2, if_neg (by omega)]
    · rw [if_neg c2, z_gi (by omega) (by omega) (by omega), h a (by omega) (by omega), if_pos ⟨by omega, by omega⟩]
theorem s_valueIn {n : Nat} {row : Nat → Int32} {g : VI} (h : Row n row g) (hn : (n : Int) < 2147483648) {a : Int} (h1 : 0 ≤ a) (h2 : a < n) : f_X8_valueAt (zI a) n row = some (zI (g a)) := by
  rw [s_valueAt h hn (by omega) (by omega), if_pos ⟨h1, h2⟩]
theorem s_replaceIn {n : Nat} {row : Nat → Int32} {g : VI} (h : Row n row g) (hn : (n : Int) < 2147483648) {a : Int} (x : Int32) (h1 : 0 ≤ a) (h2 : a < n) : f_X8_replace (zI a) x n row = some (zI (g a), upd row (zI a).toNatClampNeg x) := by
  unfold f_X8_replace
  simp (disch := omega) only [z_c0, z_ofNat, z_lt, z_le, z_gi, lt_eq]
  rw [if_neg (by omega), if_pos (by omega), h a (by omega) (by omega)]
theorem s_isEmpty {mS : Mem} {T : Int} {v : VI} (h : RS mS v) (hI : IS T v) {s : Int} (h1 : 0 ≤ s) (h2 : s < 5) : f_X6_isEmpty (zI s) mS = some (zI (if v (47 + s) = 0 then 1 else 0)) := by
  have hb := hI.sz h1 h2
  unfold f_X6_isEmpty
  rw [s_valueIn (n := 5) h.2.2.2.2.2.1 (by omega) h1 (by omega)]
  simp (disch := omega) only [f_X6_isEmpty, z_c0, z_c1, z_add, z_sub, z_neg, y_neg, z_mul, z_div, z_l, y_i, y_add, y_sub, y_mul, y_div, z_lt, z_le, z_eq, y_c1, y_c2, y_c3, y_c4, y_c5, z_gi, bd1_s, bd2_s, mul30, z_ofNat]
  repeat' split
  all_goals first | rfl | (exfalso; omega)
theorem s_hasRoom {mS : Mem} {T : Int} {v : VI} (h : RS mS v) (hI : IS T v) {s : Int} (h1 : 0 ≤ s) (h2 : s < 5) : f_X6_hasRoom (zI s) mS = some (zI (if v (47 + s) < v (32 + s) then 1 else 0)) := by
  have hb := hI.sz h1 h2
  unfold f_X6_hasRoom
  rw [s_valueIn (n := 5) h.2.2.2.2.2.1 (by omega) h1 (by omega), s_valueIn (n := 5) h.2.2.1 (by omega) h1 (by omega)]
  simp (disch := omega) only [f_X6_hasRoom, z_c0, z_c1, z_add, z_sub, z_neg, y_neg, z_mul, z_div, z_l, y_i, y_add, y_sub, y_mul, y_div, z_lt, z_le, z_eq, y_c1, y_c2, y_c3, y_c4, y_c5, z_gi, bd1_s, bd2_s, mul30, z_ofNat]
  repeat' split
  all_goals first | rfl | (exfalso; omega)
theorem s_slotOf {mS : Mem} {T : Int} {v : VI} (h : RS mS v) (hI : IS T v) {s k : Int} (h1 : -2147483648 ≤ s) (h2 : s < 2147483648) (h3 : -2147483648 ≤ k) (h4 : k < 2147483648) : f_X6_slotOf (zI s) (zI k) mS = some (zI (if 0 ≤ s ∧ s < v 1880 ∧ 0 ≤ k ∧ k < v (47 + s) then 30 * s + k else -1)) := by
  have hb := hI.1
  unfold f_X6_slotOf
  rw [s_hasSilo h hI h1 h2, bd1_s]
  by_cases c : 0 ≤ s ∧ s < v 1880
  · have hz := hI.sz (s := s) (by omega) (by omega)
    rw [if_pos c]
    simp (disch := omega) only [f_X6_slotOf, z_c0, z_c1, z_c30, z_add, z_sub, z_neg, y_neg, z_mul, z_div, z_l, y_i, y_add, y_sub, y_mul, y_div, z_lt, z_le, z_eq, y_c1, y_c2, y_c3, y_c4, y_c5, z_gi, bd1_s, bd2_s, mul30, z_ofNat, h.sz]
    repeat' split
    all_goals first | rfl | (exfalso; omega)
  · rw [if_neg c, if_pos (show zI 0 = 0 from rfl), if_neg (fun q => c ⟨q.1, q.2.1⟩)]
    rfl
def lossC (v : VI) (s mass top heat : Int) : Int := if v (37 + s) = 0 then v (42 + s) else if v (37 + s) = 1 then (mass * v (42 + s) + 99) / 100 else if v (37 + s) = 2 then heat * v (42 + s) / 20 else if top = 0 then 0 else v (42 + s)
theorem mul_b {a b c d : Int} (h1 : 0 ≤ a) (h2 : a ≤ c) (h3 : 0 ≤ b) (h4 : b ≤ d) : 0 ≤ a * b ∧ a * b ≤ c * d := ⟨Int.mul_nonneg h1 h3, Int.mul_le_mul h2 h4 h3 (by omega)⟩
theorem s_lossOf {mS : Mem} {v : VI} (h : RS mS v) {s mass top heat : Int} (hb : (0 ≤ v (37 + s) ∧ v (37 + s) ≤ 3) ∧ 0 ≤ v (42 + s) ∧ v (42 + s) ≤ 100) (h1 : 0 ≤ s) (h2 : s < 5) (h3 : 0 ≤ mass) (h4 : mass ≤ 200) (h5 : 0 ≤ heat) (h6 : heat ≤ 45) (h7 : top = 0 ∨ top = 1) : f_X6_lossOf (zI s) (zI mass) (zI top) (zI heat) mS = some (zI (lossC v s mass top heat)) := by
  have hm1 := mul_b h3 h4 hb.2.1 hb.2.2
  have hm2 := mul_b h5 h6 hb.2.1 hb.2.2
  unfold lossC
  simp (disch := omega) only [f_X6_lossOf, z_c0, z_c1, z_c2, z_c20, z_c99, z_c100, z_add, z_sub, z_neg, y_neg, z_mul, z_div, z_l, y_i, y_add, y_sub, y_mul, y_div, z_lt, z_le, z_eq, y_c1, y_c2, y_c3, y_c4, y_c5, z_gi, bd1_s, bd2_s, mul30, z_ofNat, lt_eq, h.str, h.rul]
  repeat' split
  all_goals first | rfl | (exfalso; omega)
def oldIn (v : VI) (s : Int) : Nat → Int → Int → Int
  | 0, _, best => best
  | n + 1, k, best => oldIn v s n (k + 1) (if best = -1 then 30 * s + k else if v (57 + (30 * s + k)) < v (57 + best) then 30 * s + k else best)
/-- a place where a block lies, or none -/
def isB (v : VI) (q : Int) : Prop := q = -1 ∨ ∃ s k : Int, 0 ≤ s ∧ s < v 1880 ∧ 0 ≤ k ∧ k < v (47 + s) ∧ q = 30 * s + k
theorem s_old30 {mS : Mem} {T : Int} {v : VI} (h : RS mS v) (hI : IS T v) {s : Int} (h1 : 0 ≤ s) (h2 : s < v 1880) (kk : Int32 → Int32 → Option Int32) : ∀ (n fu : Nat) (k best : Int), 0 ≤ k → k + n = v (47 + s) → n < fu → isB v best →
    f_X6_oldestSlot_L30 kk (zI s) (zI (30 * s + v (47 + s))) mS fu (zI best) (zI (30 * s + k)) = kk (zI (oldIn v s n k best)) (zI (s + 1)) ∧ isB v (oldIn v s n k best) := by
  have hb := hI.1
  have hz := hI.sz (s := s) (by omega) (by omega)
  intro n
  induction n with
  | zero =>
    intro fu k best hk hn hf hB
    obtain ⟨fu, rfl⟩ : ∃ m, fu = m + 1 := ⟨fu - 1, by omega⟩
    refine ⟨?_, hB⟩
    simp (disch := omega) only [f_X6_oldestSlot_L30, z_c1, z_add, z_sub, z_neg, y_neg, z_mul, z_div, z_l, y_i, y_add, y_sub, y_mul, y_div, z_lt, z_le, z_eq, y_c1, y_c2, y_c3, y_c4, y_c5, z_gi, bd1_s, bd2_s, mul30, z_ofNat, lt_eq, oldIn]
    rw [if_pos (by omega)]
  | succ n ih =>
    intro fu k best hk hn hf hB
    obtain ⟨fu, rfl⟩ : ∃ m, fu = m + 1 := ⟨fu - 1, by omega⟩
    have hbk := hI.blk (s := s) (k := k) (by omega) (by omega) hk (by omega)
    have hrk := h.blk (s := s) (k := k) (by omega) (by omega) hk (by omega)
    have hB1 : isB v (30 * s + k) := Or.inr ⟨s, k, by omega, by omega, by omega, by omega, rfl⟩
    have e : 30 * s + k + 1 = 30 * s + (k + 1) := by omega
    rcases hB with rfl | ⟨s1, k1, q1, q2, q3, q4, rfl⟩
    · simp (disch := omega) only [f_X6_oldestSlot_L30, f_X6_oldestSlot_b57, f_X6_oldestSlot_b60, z_c1, z_add, z_sub, z_neg, y_neg, z_mul, z_div, z_l, y_i, y_add, y_sub, y_mul, y_div, z_lt, z_le, z_eq, y_c1, y_c2, y_c3, y_c4, y_c5, z_gi, bd1_s, bd2_s, mul30, z_ofNat, lt_eq, oldIn, e]
      rw [if_neg (by omega), if_pos trivial]
      exact ih fu (k + 1) (30 * s + k) (by omega) (by omega) (by omega) hB1
    · have hbk1 := hI.blk (s := s1) (k := k1) (by omega) (by omega) q3 q4
      have hrk1 := h.blk (s := s1) (k := k1) (by omega) (by omega) q3 q4
      have hz1 := hI.sz (s := s1) (by omega) (by omega)
      have hv := hI.2.1
      simp (disch := omega) only [f_X6_oldestSlot_L30, f_X6_oldestSlot_b57, f_X6_oldestSlot_b60, z_c1, z_add, z_sub, z_neg, y_neg, z_mul, z_div, z_l, y_i, y_add, y_sub, y_mul, y_div, z_lt, z_le, z_eq, y_c1, y_c2, y_c3, y_c4, y_c5, z_gi, bd1_s, bd2_s, mul30, z_ofNat, lt_eq, oldIn, e, hrk.1, hrk1.1]
      have c1 : ¬ 30 * s + v (47 + s) ≤ 30 * s + k := by omega
      have c2 : ¬ 30 * s1 + k1 = -1 := by omega
      by_cases c3 : v (57 + (30 * s1 + k1)) ≤ v (57 + (30 * s + k))
      · have c4 : ¬ v (57 + (30 * s + k)) < v (57 + (30 * s1 + k1)) := by omega
        simp only [if_neg c1, if_neg c2, if_pos c3, if_neg c4]
        exact ih fu (k + 1) (30 * s1 + k1) (by omega) (by omega) (by omega) (Or.inr ⟨s1, k1, q1, q2, q3, q4, rfl⟩)
      · have c4 : v (57 + (30 * s + k)) < v (57 + (30 * s1 + k1)) := by omega
        simp only [if_neg c1, if_neg c2, if_neg c3, if_pos c4]
        exact ih fu (k + 1) (30 * s + k) (by omega) (by omega) (by omega) hB1
def oldOut (v : VI) : Nat → Int → Int → Int
  | 0, _, best => best
  | n + 1, s, best => oldOut v n (s + 1) (oldIn v s (v (47 + s)).toNat 0 best)
/-- where the oldest block lies -/
def oldQ (v : VI) : Int := oldOut v (v 1880).toNat 0 (-1)
theorem s_old4 {mS : Mem} {T : Int} {v : VI} (h : RS mS v) (hI : IS T v) : ∀ (n fu : Nat) (s best : Int), 0 ≤ s → s + n = v 1880 → n < fu → isB v best →
    f_X6_oldestSlot_L4 mS fu (zI best) (zI s) = some (zI (oldOut v n s best)) ∧ isB v (oldOut v n s best) := by
  have hb := hI.1
  intro n
  induction n with
  | zero =>
    intro fu s best hk hn hf hB
    obtain ⟨fu, rfl⟩ : ∃ m, fu = m + 1 := ⟨fu - 1, by omega⟩
    refine ⟨?_, hB⟩
    simp (disch := omega) only [f_X6_oldestSlot_L4, z_c30, z_add, z_sub, z_neg, y_neg, z_mul, z_div, z_l, y_i, y_add, y_sub, y_mul, y_div, z_lt, z_le, z_eq, y_c1, y_c2, y_c3, y_c4, y_c5, z_gi, bd1_s, bd2_s, mul30, z_ofNat, lt_eq, oldOut, h.1]
    rw [if_pos (by omega)]
  | succ n ih =>
    intro fu s best hk hn hf hB
    obtain ⟨fu, rfl⟩ : ∃ m, fu = m + 1 := ⟨fu - 1, by omega⟩
    have hz := hI.sz (s := s) (by omega) (by omega)
    have hi := s_old30 h hI (s := s) hk (by omega) (f_X6_oldestSlot_L4 mS fu) (v (47 + s)).toNat fuel 0 best (by omega) (by omega) (fuel_gt (by omega)) hB
    rw [Int.add_zero] at hi
    simp (disch := omega) only [f_X6_oldestSlot_L4, z_c30, z_add, z_sub, z_neg, y_neg, z_mul, z_div, z_l, y_i, y_add, y_sub, y_mul, y_div, z_lt, z_le, z_eq, y_c1, y_c2, y_c3, y_c4, y_c5, z_gi, bd1_s, bd2_s, mul30, z_ofNat, lt_eq, oldOut, h.1, h.sz]
    rw [if_neg (by omega), hi.1]
    exact ih fu (s + 1) _ (by omega) (by omega) (by omega) hi.2
theorem s_oldest {mS : Mem} {T : Int} {v : VI} (h : RS mS v) (hI : IS T v) : f_X6_oldestSlot mS = some (zI (oldQ v)) ∧ isB v (oldQ v) := by
  have hb := hI.1
  have := s_old4 h hI (v 1880).toNat fuel 0 (-1) (by omega) (by omega) (fuel_gt (by omega)) (Or.inl rfl)
  simp (disch := omega) only [f_X6_oldestSlot, z_c0, z_c1, z_add, z_sub, z_neg, y_neg, z_mul, z_div, z_l, y_i, y_add, y_sub, y_mul, y_div, z_lt, z_le, z_eq, y_c1, y_c2, y_c3, y_c4, y_c5, z_gi, bd1_s, bd2_s, mul30, z_ofNat, lt_eq]
  exact this
theorem m_old20 {mM : Mem} {nM : MemL} {sv tv : Nat → Int64} {T : Int} {v : VI} (hM : MR nM v sv tv) (hI : IS T v) {s : Int} (h1 : 0 ≤ s) (h2 : s < v 1880) (kk : Int32 → Int32 → Option Int32) : ∀ (n fu : Nat) (k best : Int), 0 ≤ k → k + n = v (47 + s) → n < fu → isB v best →
    f_X9_oldest_L20 kk (zI s) mM nM fu (zI best) (zI k) = kk (zI (oldIn v s n k best)) (zI (s + 1)) ∧ isB v (oldIn v s n k best) := by
  have hb := hI.1
  have hz := hI.sz (s := s) (by omega) (by omega)
  intro n
  induction n with
  | zero =>
    intro fu k best hk hn hf hB
    obtain ⟨fu, rfl⟩ : ∃ m, fu = m + 1 := ⟨fu - 1, by omega⟩
    refine ⟨?_, hB⟩
    simp (disch := omega) only [f_X9_oldest_L20, z_c0, z_c1, z_c30, z_c47, z_c57, z_add, z_sub, z_neg, y_neg, z_mul, z_div, z_l, y_i, y_add, y_sub, y_mul, y_div, z_lt, z_le, z_eq, y_c1, y_c2, y_c3, y_c4, y_c5, z_gi, bd1_s, bd2_s, mul30, z_ofNat, lt_eq, oldIn, hM.rd]
    rw [if_pos (by omega)]
  | succ n ih =>
    intro fu k best hk hn hf hB
    obtain ⟨fu, rfl⟩ : ∃ m, fu = m + 1 := ⟨fu - 1, by omega⟩
    have hbk := hI.blk (s := s) (k := k) (by omega) (by omega) hk (by omega)
    have hB1 : isB v (30 * s + k) := Or.inr ⟨s, k, by omega, by omega, by omega, by omega, rfl⟩
    have c1 : ¬ v (47 + s) ≤ k := by omega
    rcases hB with rfl | ⟨s1, k1, q1, q2, q3, q4, rfl⟩
    · simp (disch := omega) only [f_X9_oldest_L20, f_X9_oldest_b67, f_X9_oldest_b74, z_c0, z_c1, z_c30, z_c47, z_c57, z_add, z_sub, z_neg, y_neg, z_mul, z_div, z_l, y_i, y_add, y_sub, y_mul, y_div, z_lt, z_le, z_eq, y_c1, y_c2, y_c3, y_c4, y_c5, z_gi, bd1_s, bd2_s, mul30, z_ofNat, lt_eq, oldIn, hM.rd, Int.add_assoc]
      rw [if_neg c1, if_pos trivial]
      exact ih fu (k + 1) (30 * s + k) (by omega) (by omega) (by omega) hB1
    · have hbk1 := hI.blk (s := s1) (k := k1) (by omega) (by omega) q3 q4
      have hz1 := hI.sz (s := s1) (by omega) (by omega)
      have hv := hI.2.1
      simp (disch := omega) only [f_X9_oldest_L20, f_X9_oldest_b67, f_X9_oldest_b74, z_c0, z_c1, z_c30, z_c47, z_c57, z_add, z_sub, z_neg, y_neg, z_mul, z_div, z_l, y_i, y_add, y_sub, y_mul, y_div, z_lt, z_le, z_eq, y_c1, y_c2, y_c3, y_c4, y_c5, z_gi, bd1_s, bd2_s, mul30, z_ofNat, lt_eq, oldIn, hM.rd, Int.add_assoc]
      have c2 : ¬ 30 * s1 + k1 = -1 := by omega
      by_cases c3 : v (57 + (30 * s1 + k1)) ≤ v (57 + (30 * s + k))
      · have c4 : ¬ v (57 + (30 * s + k)) < v (57 + (30 * s1 + k1)) := by omega
        simp only [if_neg c1, if_neg c2, if_pos c3, if_neg c4]
        exact ih fu (k + 1) (30 * s1 + k1) (by omega) (by omega) (by omega) (Or.inr ⟨s1, k1, q1, q2, q3, q4, rfl⟩)
      · have c4 : v (57 + (30 * s + k)) < v (57 + (30 * s1 + k1)) := by omega
        simp only [if_neg c1, if_neg c2, if_neg c3, if_pos c4]
        exact ih fu (k + 1) (30 * s + k) (by omega) (by omega) (by omega) hB1
theorem m_old4 {mM : Mem} {nM : MemL} {sv tv : Nat → Int64} {T : Int} {v : VI} (hM : MR nM v sv tv) (hI : IS T v) : ∀ (n fu : Nat) (s best : Int), 0 ≤ s → s + n = v 1880 → n < fu → isB v best →
    f_X9_oldest_L4 mM nM fu (zI best) (zI s) = some (zI (oldOut v n s best)) := by
  have hb := hI.1
  intro n
  induction n with
  | zero =>
    intro fu s best hk hn hf hB
    obtain ⟨fu, rfl⟩ : ∃ m, fu = m + 1 := ⟨fu - 1, by omega⟩
    simp (disch := omega) only [f_X9_oldest_L4, z_c0, z_c1880, z_add, z_sub, z_neg, y_neg, z_mul, z_div, z_l, y_i, y_add, y_sub, y_mul, y_div, z_lt, z_le, z_eq, y_c1, y_c2, y_c3, y_c4, y_c5, z_gi, bd1_s, bd2_s, mul30, z_ofNat, lt_eq, oldOut, hM.rd]
    rw [if_pos (by omega)]
  | succ n ih =>
    intro fu s best hk hn hf hB
    obtain ⟨fu, rfl⟩ : ∃ m, fu = m + 1 := ⟨fu - 1, by omega⟩
    have hz := hI.sz (s := s) (by omega) (by omega)
    have hi := m_old20 (mM := mM) hM hI (s := s) hk (by omega) (f_X9_oldest_L4 mM nM fu) (v (47 + s)).toNat fuel 0 best (by omega) (by omega) (fuel_gt (by omega)) hB
    simp (disch := omega) only [f_X9_oldest_L4, z_c0, z_c1880, z_add, z_sub, z_neg, y_neg, z_mul, z_div, z_l, y_i, y_add, y_sub, y_mul, y_div, z_lt, z_le, z_eq, y_c1, y_c2, y_c3, y_c4, y_c5, z_gi, bd1_s, bd2_s, mul30, z_ofNat, lt_eq, oldOut, hM.rd]
    rw [if_neg (by omega), hi.1]
    exact ih fu (s + 1) _ (by omega) (by omega) (by omega) hi.2
theorem m_oldest {mM : Mem} {nM : MemL} {sv tv : Nat → Int64} {T : Int} {v : VI} (hM : MR nM v sv tv) (hI : IS T v) : f_X9_oldest mM nM = some (zI (oldQ v)) := by
  have hb := hI.1
  simp (disch := omega) only [f_X9_oldest, z_c0, z_c1, z_add, z_sub, z_neg, y_neg, z_mul, z_div, z_l, y_i, y_add, y_sub, y_mul, y_div, z_lt, z_le, z_eq, y_c1, y_c2, y_c3, y_c4, y_c5, z_gi, bd1_s, bd2_s, mul30, z_ofNat, lt_eq]
  exact m_old4 hM hI (v 1880).toNat fuel 0 (-1) (by omega) (by omega) (fuel_gt (by omega)) (Or.inl rfl)
