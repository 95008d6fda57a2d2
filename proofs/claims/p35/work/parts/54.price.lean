/-! prices, charges, counts of blocks -/
def IP (v : VI) : Prop := (1 ≤ v 0 ∧ v 0 ≤ 200) ∧ (0 ≤ v 1 ∧ v 1 ≤ 12) ∧ (0 ≤ v 2 ∧ v 2 ≤ 3) ∧ (0 ≤ v 3 ∧ v 3 ≤ 1000000) ∧ (0 ≤ v 4 ∧ v 4 ≤ 999) ∧ (0 ≤ v 5 ∧ v 5 ≤ 999) ∧ (0 ≤ v 6 ∧ v 6 ≤ 1000000) ∧ (0 ≤ v 7 ∧ v 7 ≤ 100) ∧ (∀ h : Int, 0 ≤ h → h < 24 → -20 ≤ v (8 + h) ∧ v (8 + h) ≤ 45)
theorem IP.cg {v v' : VI} (h : IP v) (e : ∀ j : Int, 0 ≤ j → j < 32 → v' j = v j) : IP v' := by
  obtain ⟨h0, h1, h2, h3, h4, h5, h6, h7, h8⟩ := h
  refine ⟨?_, ?_, ?_, ?_, ?_, ?_, ?_, ?_, fun k q1 q2 => ?_⟩
  · rw [e 0 (by omega) (by omega)]; exact h0
  · rw [e 1 (by omega) (by omega)]; exact h1
  · rw [e 2 (by omega) (by omega)]; exact h2
  · rw [e 3 (by omega) (by omega)]; exact h3
  · rw [e 4 (by omega) (by omega)]; exact h4
  · rw [e 5 (by omega) (by omega)]; exact h5
  · rw [e 6 (by omega) (by omega)]; exact h6
  · rw [e 7 (by omega) (by omega)]; exact h7
  · rw [e _ (by omega) (by omega)]; exact h8 k q1 q2
def prF (v : VI) (b m d : Int) : Int := if v (507 + b) < v 6 then m * (if d = 1 then v 4 else v 5) else m * (if d = 1 then v 4 else v 5) - m * (if d = 1 then v 4 else v 5) * v 7 / 100
theorem prF_b {v : VI} (hP : IP v) {b m d : Int} (m0 : 0 ≤ m) (m1 : m ≤ 9999) : 0 ≤ prF v b m d ∧ prF v b m d ≤ m * 999 := by
  obtain ⟨h0, h1, h2, h3, h4, h5, h6, h7, -⟩ := hP
  have hq : 0 ≤ (if d = 1 then v 4 else v 5) ∧ (if d = 1 then v 4 else v 5) ≤ 999 := by split <;> omega
  unfold prF
  generalize (if d = 1 then v 4 else v 5) = q at hq ⊢
  have a1 : 0 ≤ m * q := Int.mul_nonneg m0 hq.1
  have a2 : m * q ≤ m * 999 := Int.mul_le_mul_of_nonneg_left hq.2 m0
  have a3 : 0 ≤ m * q * v 7 := Int.mul_nonneg a1 h7.1
  have a4 : m * q * v 7 ≤ m * q * 100 := Int.mul_le_mul_of_nonneg_left h7.2 a1
  split <;> omega
theorem s_priceOf {mP mS mB mO mR mA : Mem} {nP nA : MemL} {v : VI} (hP : RPs mP nP v) (hB : RB mB v) (hI : IP v) {b m d : Int} (hc : 0 ≤ v (507 + b) ∧ v (507 + b) ≤ 1000000) (b0 : 0 ≤ b) (b1 : b < 8) (m0 : 0 ≤ m) (m1 : m ≤ 9999) (hd : d = 0 ∨ d = 1) : f_X4_priceOf (zI b) (zI m) (zI d) mP nP mS mB mO mR mA nA = some (zI (prF v b m d)) := by
  obtain ⟨h0, h1, h2, h3, h4, h5, h6, h7, -⟩ := hI
  have x4 := mul_b m0 m1 h4.1 h4.2
  have x5 := mul_b m0 m1 h5.1 h5.2
  have y4 := mul_b x4.1 x4.2 h7.1 h7.2
  have y5 := mul_b x5.1 x5.2 h7.1 h7.2
  have s4 := hP.set (k := 4) (by omega) (by omega)
  have s5 := hP.set (k := 5) (by omega) (by omega)
  have s6 := hP.set (k := 6) (by omega) (by omega)
  have s7 := hP.set (k := 7) (by omega) (by omega)
  unfold f_X4_priceOf
  rcases hd with rfl | rfl
  · rw [if_neg (by decide)]
    simp (disch := omega) only [f_X4_priceOf_b15, f_X4_priceOf, z_c1, z_c4, z_c5, z_c6, z_c7, z_c100, z_add, z_sub, z_neg, y_neg, z_mul, z_div, z_l, y_i, y_add, y_sub, y_mul, y_div, z_lt, z_le, z_eq, y_c1, y_c2, y_c3, y_c4, y_c5, z_gi, bd1_s, bd2_s, mul30, z_ofNat, s5, s6, s7, lt_eq]
    rw [s_valueIn (n := 8) hB.2.1 (by omega) b0 (by omega), bd1_s]
    simp (disch := omega) only [z_add, z_sub, z_neg, y_neg, z_mul, z_div, z_l, y_i, y_add, y_sub, y_mul, y_div, z_lt, z_le, z_eq, y_c1, y_c2, y_c3, y_c4, y_c5, z_gi, bd1_s, bd2_s, mul30, z_ofNat, lt_eq, z_c100]
    unfold prF
    simp only [Int.reduceEq, ↓reduceIte]
    split <;> rfl
  · rw [if_pos (by decide)]
    simp (disch := omega) only [f_X4_priceOf_b15, f_X4_priceOf, z_c1, z_c4, z_c5, z_c6, z_c7, z_c100, z_add, z_sub, z_neg, y_neg, z_mul, z_div, z_l, y_i, y_add, y_sub, y_mul, y_div, z_lt, z_le, z_eq, y_c1, y_c2, y_c3, y_c4, y_c5, z_gi, bd1_s, bd2_s, mul30, z_ofNat, s4, s6, s7, lt_eq]
    rw [s_valueIn (n := 8) hB.2.1 (by omega) b0 (by omega), bd1_s]
    simp (disch := omega) only [z_add, z_sub, z_neg, y_neg, z_mul, z_div, z_l, y_i, y_add, y_sub, y_mul, y_div, z_lt, z_le, z_eq, y_c1, y_c2, y_c3, y_c4, y_c5, z_gi, bd1_s, bd2_s, mul30, z_ofNat, lt_eq, z_c100]
    unfold prF
    simp only [↓reduceIte]
    split <;> rfl
theorem m_priceOf {mM : Mem} {nM : MemL} {sv tv : Nat → Int64} {v : VI} (hM : MR nM v sv tv) (hI : IP v) {b m d : Int} (hc : 0 ≤ v (507 + b) ∧ v (507 + b) ≤ 1000000) (b0 : 0 ≤ b) (b1 : b < 8) (m0 : 0 ≤ m) (m1 : m ≤ 9999) (hd : d = 0 ∨ d = 1) : f_X9_priceOf (zI b) (zL m) (zI d) mM nM = some (zL (prF v b m d)) := by
  obtain ⟨h0, h1, h2, h3, h4, h5, h6, h7, -⟩ := hI
  have x4 := mul_b m0 m1 h4.1 h4.2
  have x5 := mul_b m0 m1 h5.1 h5.2
  have y4 := mul_b x4.1 x4.2 h7.1 h7.2
  have y5 := mul_b x5.1 x5.2 h7.1 h7.2
  unfold f_X9_priceOf
  rcases hd with rfl | rfl
  · rw [if_neg (by decide)]
    simp (disch := omega) only [f_X9_priceOf_b17, f_X9_priceOf, z_c0, z_c1, z_c4, z_c5, z_c6, z_c7, z_c507, y_c100_, z_add, z_sub, z_neg, y_neg, z_mul, z_div, z_l, y_i, y_add, y_sub, y_mul, y_div, z_lt, z_le, z_eq, y_c1, y_c2, y_c3, y_c4, y_c5, z_gi, bd1_s, bd2_s, mul30, z_ofNat, lt_eq, hM.rd, Int.zero_add, Int.reduceAdd]
    unfold prF
    simp only [Int.reduceEq, ↓reduceIte]
    split <;> rfl
  · rw [if_pos (by decide)]
    simp (disch := omega) only [f_X9_priceOf_b17, f_X9_priceOf, z_c0, z_c1, z_c4, z_c5, z_c6, z_c7, z_c507, y_c100_, z_add, z_sub, z_neg, y_neg, z_mul, z_div, z_l, y_i, y_add, y_sub, y_mul, y_div, z_lt, z_le, z_eq, y_c1, y_c2, y_c3, y_c4, y_c5, z_gi, bd1_s, bd2_s, mul30, z_ofNat, lt_eq, hM.rd, Int.zero_add, Int.reduceAdd]
    unfold prF
    simp only [↓reduceIte]
    split <;> rfl
theorem s_charge {mB : Mem} {v : VI} {T : Int} (h : RB mB v) (hI : IB T v) {b : Int} (m p : Int) (b0 : 0 ≤ b) (b1 : b < v 1881) : Ev (f_X1_charge (zI b) (zI m) (zI p) mB) (fun mB' => RB mB' (upV (upV v (523 + b) (v (523 + b) + m)) (515 + b) (v (515 + b) + p))) := by
  have hb := hI.1
  have hh := s_hasB h hI (a := b) (by omega) (by omega)
  rw [if_pos ⟨b0, b1⟩] at hh
  have hg := h.got b0 (show b < 8 by omega)
  have hd := h.deb b0 (show b < 8 by omega)
  obtain ⟨g1, g2, g3, g4⟩ := h
  unfold f_X1_charge
  rw [hh, bd1_s, if_neg (by decide)]
  simp (disch := omega) only [z_gi, hg, z_add]
  refine Ev_lt ?_
  simp (disch := omega) only [z_gi, wrI_ne, hd, z_add]
  refine Ev_lt (Ev_some ?_)
  unfold RB
  simp (disch := omega) only [wrI_ne, wrI_same]
  refine ⟨by simp (disch := omega) only [upV_ne]; exact g1, g2.cg fun k q1 q2 => by simp (disch := omega) only [upV_ne], (g3.wr b0 (by omega) (by omega) _).cg fun k q1 q2 => ?_, (g4.wr b0 (by omega) (by omega) _).cg fun k q1 q2 => ?_⟩
  · unfold upV
    by_cases e : k = b
    · rw [if_pos (by omega), if_pos e]
    · rw [if_neg (by omega), if_neg e, if_neg (by omega)]
  · rw [upV_ne _ _ (by omega)]
    unfold upV
    by_cases e : k = b
    · rw [if_pos (by omega), if_pos e]
    · rw [if_neg (by omega), if_neg e]
theorem sumR_one {f g : Int → Int} {s c : Int} : ∀ {n : Nat} {a : Int}, a ≤ s → s < a + n → (∀ j : Int, j ≠ s → g j = f j) → g s = f s + c → sumR g n a = sumR f n a + c
  | 0, a, h1, h2, _, _ => by omega
  | n + 1, a, h1, h2, e, es => by
    show g a + sumR g n (a + 1) = f a + sumR f n (a + 1) + c
    by_cases d : a = s
    · subst d
      have : sumR g n (a + 1) = sumR f n (a + 1) := sumR_cg fun j q1 q2 => e j (by omega)
      rw [this, es]; omega
    · rw [sumR_one (a := a + 1) (by omega) (by omega) e es, e a d]; omega
theorem sumR_pos {f : Int → Int} : ∀ {n : Nat} {a : Int}, (∀ j : Int, a ≤ j → j < a + n → 0 ≤ f j) → 0 ≤ sumR f n a ∧ ∀ s : Int, a ≤ s → s < a + n → f s ≤ sumR f n a
  | 0, a, h => ⟨Int.le_refl _, fun s q1 q2 => by omega⟩
  | n + 1, a, h => by
    have i := sumR_pos (f := f) (n := n) (a := a + 1) (fun j q1 q2 => h j (by omega) (by omega))
    have h0 := h a (Int.le_refl _) (by omega)
    show 0 ≤ f a + sumR f n (a + 1) ∧ ∀ s : Int, a ≤ s → s < a + ((n + 1 : Nat) : Int) → f s ≤ f a + sumR f n (a + 1)
    refine ⟨by omega, fun s q1 q2 => ?_⟩
    by_cases d : s = a
    · subst d; omega
    · have := i.2 s (by omega) (by omega); omega
theorem blocksF_b {v : VI} {T : Int} (hI : IS T v) : 0 ≤ blocksF v ∧ blocksF v ≤ 150 ∧ ∀ s : Int, 0 ≤ s → s < v 1880 → v (47 + s) ≤ blocksF v := by
  have hb := hI.1
  have hp := sumR_pos (f := fun s => v (47 + s)) (n := (v 1880).toNat) (a := 0) (fun j q1 q2 => (hI.sz q1 (by omega)).1)
  have hl := sumR_le (f := fun s => v (47 + s)) (c := 30) (n := (v 1880).toNat) (s := 0) (fun j q1 q2 => by have := hI.sz q1 (show j < 5 by omega); show 0 ≤ v (47 + j) ∧ v (47 + j) ≤ 30; omega)
  unfold blocksF
  exact ⟨hp.1, by omega, fun s q1 q2 => hp.2 s q1 (by omega)⟩
theorem blocksF_rem {v : VI} {s k : Int} (s0 : 0 ≤ s) (s1 : s < v 1880) (h5 : v 1880 ≤ 5) (k0 : 0 ≤ k) (k1 : k < v (47 + s)) (k2 : v (47 + s) ≤ 30) : blocksF (remV v s k) = blocksF v - 1 := by
  have e80 : remV v s k 1880 = v 1880 := by
    unfold remV; rw [upV_ne _ _ (by omega), shV_out v (by omega)]
  unfold blocksF
  rw [e80]
  have e : sumR (fun s' => remV v s k (47 + s')) (v 1880).toNat 0 = sumR (fun s' => if s' = s then v (47 + s) - 1 else v (47 + s')) (v 1880).toNat 0 := sumR_cg fun j q1 q2 => by
    show remV v s k (47 + j) = if j = s then v (47 + s) - 1 else v (47 + j)
    unfold remV
    by_cases d : j = s
    · rw [if_pos d, d, upV_same]
    · rw [if_neg d, upV_ne _ _ (by omega), shV_out v (by omega)]
  rw [e]
  rw [sumR_one (f := fun s' => v (47 + s')) (s := s) (c := -1) s0 (by omega) (fun j hj => if_neg hj) (by show (if s = s then v (47 + s) - 1 else v (47 + s)) = _; rw [if_pos rfl]; omega)]
  omega
theorem blocksF_cg {v v' : VI} (e1 : v' 1880 = v 1880) (h5 : v 1880 ≤ 5) (e2 : ∀ s : Int, 0 ≤ s → s < 5 → v' (47 + s) = v (47 + s)) : blocksF v' = blocksF v := by
  unfold blocksF
  rw [e1]
  exact sumR_cg fun j q1 q2 => e2 j q1 (by omega)
theorem IS.rem {T : Int} {v : VI} (hI : IS T v) {s k : Int} (s0 : 0 ≤ s) (s1 : s < v 1880) (k0 : 0 ≤ k) (k1 : k < v (47 + s)) : IS T (remV v s k) := by
  have hb := hI.1
  have hz := hI.sz (s := s) s0 (by omega)
  have o : ∀ j : Int, j ≠ 47 + s → ¬ (57 ≤ j ∧ j < 507) → remV v s k j = v j := fun j a b => by
    unfold remV; rw [upV_ne _ _ a, shV_out v (by omega)]
  have e47 : remV v s k (47 + s) = v (47 + s) - 1 := by unfold remV; rw [upV_same]
  refine ⟨by rw [o _ (by omega) (by omega)]; exact hI.1, by rw [o 1887 (by omega) (by omega), o 1875 (by omega) (by omega)]; exact hI.2.1, fun s' q1 q2 => ?_, fun s' k' q1 q2 q3 q4 => ?_⟩
  · have g := hI.2.2.1 s' q1 q2
    rw [o (32 + s') (by omega) (by omega), o (37 + s') (by omega) (by omega), o (42 + s') (by omega) (by omega), o (52 + s') (by omega) (by omega), o 1880 (by omega) (by omega)]
    by_cases e : s' = s
    · subst e; rw [e47]; omega
    · rw [o (47 + s') (by omega) (by omega)]; exact g
  · rw [o 1887 (by omega) (by omega), o 1875 (by omega) (by omega)]
    have hz' := hI.sz q1 q2
    by_cases e : s' = s
    · subst e
      rw [e47] at q4
      by_cases c : k' < k
      · have := remV_lo v (s := s') (k := k) (j := k') q1 q2 q3 c k1 (by omega)
        rw [this.1, this.2.1, this.2.2]
        exact hI.blk q1 q2 q3 (by omega)
      · have := remV_hi v (s := s') (k := k) (j := k') q1 q2 k0 (by omega) (by omega) (by omega)
        rw [this.1, this.2.1, this.2.2]
        exact hI.blk q1 q2 (by omega) (by omega)
    · rw [o (47 + s') (by omega) (by omega)] at q4
      have : ∀ j : Int, (j = 57 + (30 * s' + k') ∨ j = 207 + (30 * s' + k') ∨ j = 357 + (30 * s' + k')) → remV v s k j = v j := fun j hj => by
        unfold remV; rw [upV_ne _ _ (by omega), shV_out v (by omega)]
      rw [this _ (Or.inl rfl), this _ (Or.inr (Or.inl rfl)), this _ (Or.inr (Or.inr rfl))]
      exact hI.blk q1 q2 q3 q4
theorem storedF_b {v : VI} {T : Int} (hI : IS T v) : 0 ≤ storedF v ∧ storedF v ≤ 30000 := by
  have hb := hI.1
  have := sumR_le (f := fun s => rowSum v 207 s) (c := 6000) (n := (v 1880).toNat) (s := 0) (fun s q1 q2 => by
    have hz := hI.sz q1 (show s < 5 by omega)
    have := sumR_le (f := fun j => v (207 + (30 * s + j))) (c := 200) (n := (v (47 + s)).toNat) (s := 0) (fun k a1 a2 => by have := hI.blk q1 (show s < 5 by omega) a1 (show k < v (47 + s) by omega); show 0 ≤ v (207 + (30 * s + k)) ∧ v (207 + (30 * s + k)) ≤ 200; omega)
    show 0 ≤ rowSum v 207 s ∧ rowSum v 207 s ≤ 6000
    unfold rowSum; omega)
  unfold storedF massS
  omega
theorem m_rem2 {mM : Mem} {nM : MemL} {sv tv : Nat → Int64} {v : VI} (hM : MR nM v sv tv) {o : Int} (h1 : 0 ≤ o) (h2 : o < 200) (hg : 0 ≤ v (931 + o) ∧ v (931 + o) ≤ 20000) (hw : 1 ≤ v (731 + o) ∧ v (731 + o) ≤ 9999) : f_X9_remaining (zI o) mM nM = some (zL (remF v o)) := by
  simp (disch := omega) only [f_X9_remaining, z_c0, z_c731, z_c931, y_c0_, z_add, z_sub, z_neg, y_neg, z_mul, z_div, z_l, y_i, y_add, y_sub, y_mul, y_div, z_lt, z_le, z_eq, y_c1, y_c2, y_c3, y_c4, y_c5, z_gi, bd1_s, bd2_s, mul30, z_ofNat, lt_eq, hM.rd]
  unfold remF
  repeat' split
  all_goals first | rfl | (exfalso; omega)
