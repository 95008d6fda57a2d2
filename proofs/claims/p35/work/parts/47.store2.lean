/-! the rest of the silos' writes: ages, a move, a new silo -/
theorem RS.agew {mS : Mem} {v : VI} (h : RS mS v) {a : Int} (x : Int) (h1 : 0 ≤ a) (h2 : a < 150) (hz : ∀ s : Int, 0 ≤ s → s < 5 → v (47 + s) ≤ 30) : RS (wrI mS 9 (upd (mS 9) (zI a).toNatClampNeg (zI x))) (upV v (357 + a) x) := by
  obtain ⟨g1, g2, g3, g4, g5, g6, g7, g8⟩ := h
  unfold RS
  rw [wrI_same, wrI_ne _ _ (by decide), wrI_ne _ _ (by decide), wrI_ne _ _ (by decide), wrI_ne _ _ (by decide), wrI_ne _ _ (by decide), wrI_ne _ _ (by decide), wrI_ne _ _ (by decide), wrI_ne _ _ (by decide), wrI_ne _ _ (by decide)]
  refine ⟨?_, ?_, ?_, ?_, ?_, ?_, ?_, ?_⟩
  · simp (disch := omega) only [upV_ne]; exact g1
  · simp (disch := omega) only [upV_ne]; exact g2
  · refine g3.cg fun k q1 q2 => ?_; simp (disch := omega) only [upV_ne]
  · refine g4.cg fun k q1 q2 => ?_; simp (disch := omega) only [upV_ne]
  · refine g5.cg fun k q1 q2 => ?_; simp (disch := omega) only [upV_ne]
  · refine g6.cg fun k q1 q2 => ?_; simp (disch := omega) only [upV_ne]
  · refine g7.cg fun k q1 q2 => ?_; simp (disch := omega) only [upV_ne]
  · intro s k q1 q2 q3 q4
    have hs := hz s q1 q2
    rw [upV_ne _ _ (by omega)] at q4
    have g := g8 s k q1 q2 q3 q4
    rw [upd_rd _ _ h1 (by omega) (by omega) (by omega)]
    by_cases e : 30 * s + k = a
    · rw [if_pos e, e]
      rw [e] at g
      simp (disch := omega) only [upV_ne, upV_at]
      exact ⟨g.1, g.2.1, trivial⟩
    · rw [if_neg e]
      simp (disch := omega) only [upV_ne]
      exact g
/-- the blocks below the place m are older by one -/
def growV (v : VI) (m : Int) : VI := fun j => if 357 ≤ j ∧ j < 357 + m ∧ (j - 357) % 30 < v (47 + (j - 357) / 30) then v j + 1 else v j
theorem growV_out (v : VI) {m j : Int} (h : ¬ (357 ≤ j ∧ j < 357 + m)) : growV v m j = v j := if_neg (by omega)
theorem growV_step (v : VI) {s k : Int} (h0 : 0 ≤ s) (h1 : 0 ≤ k) (h2 : k < 30) (h3 : k < v (47 + s)) : upV (growV v (30 * s + k)) (357 + (30 * s + k)) (v (357 + (30 * s + k)) + 1) = growV v (30 * s + (k + 1)) := by
  funext j
  unfold upV growV
  by_cases c : j = 357 + (30 * s + k)
  · subst c
    have e1 : (357 + (30 * s + k) - 357) / 30 = s := by omega
    have e2 : (357 + (30 * s + k) - 357) % 30 = k := by omega
    rw [if_pos rfl, e1, e2, if_pos (by omega)]
  · rw [if_neg c]
    by_cases c2 : 357 ≤ j ∧ j < 357 + (30 * s + k) ∧ (j - 357) % 30 < v (47 + (j - 357) / 30)
    · rw [if_pos c2, if_pos (by omega)]
    · rw [if_neg c2, if_neg (by omega)]
theorem growV_next (v : VI) {s : Int} (h0 : 0 ≤ s) (h1 : 0 ≤ v (47 + s)) (h2 : v (47 + s) ≤ 30) : growV v (30 * s + v (47 + s)) = growV v (30 * (s + 1)) := by
  funext j
  unfold growV
  by_cases c : 357 ≤ j ∧ j < 357 + (30 * s + v (47 + s)) ∧ (j - 357) % 30 < v (47 + (j - 357) / 30)
  · rw [if_pos c, if_pos (by omega)]
  · rw [if_neg c]
    by_cases c2 : 357 + (30 * s + v (47 + s)) ≤ j ∧ j < 357 + 30 * (s + 1)
    · have e1 : (j - 357) / 30 = s := by omega
      rw [if_neg]
      rw [e1]; omega
    · rw [if_neg (by omega)]
theorem growV_0 (v : VI) : growV v 0 = v := by
  funext j; exact growV_out v (by omega)
theorem s_grow27 {v : VI} {T : Int} {s : Int} (hI : IS T v) (h1 : 0 ≤ s) (h2 : s < 5) (kk : Int32 → Mem → Option Mem) : ∀ (n fu : Nat) (k : Int) (mS : Mem), 0 ≤ k → k + n = v (47 + s) → n < fu → RS mS (growV v (30 * s + k)) →
    ∃ mS', f_X6_growOlder_L27 kk (zI s) (zI (30 * s + v (47 + s))) fu (zI (30 * s + k)) mS = kk (zI (s + 1)) mS' ∧ RS mS' (growV v (30 * (s + 1))) := by
  have hz := hI.sz h1 h2
  have hv := hI.2.1
  intro n
  induction n with
  | zero =>
    intro fu k mS hk hn hf hS
    obtain ⟨fu, rfl⟩ : ∃ m, fu = m + 1 := ⟨fu - 1, by omega⟩
    refine ⟨mS, ?_, ?_⟩
    · simp (disch := omega) only [f_X6_growOlder_L27, z_c1, z_add, z_sub, z_neg, y_neg, z_mul, z_div, z_l, y_i, y_add, y_sub, y_mul, y_div, z_lt, z_le, z_eq, y_c1, y_c2, y_c3, y_c4, y_c5, z_gi, bd1_s, bd2_s, mul30, z_ofNat, lt_eq]
      rw [if_pos (by omega)]
    · rw [← growV_next v h1 (by omega) (by omega), show v (47 + s) = k by omega]; exact hS
  | succ n ih =>
    intro fu k mS hk hn hf hS
    obtain ⟨fu, rfl⟩ : ∃ m, fu = m + 1 := ⟨fu - 1, by omega⟩
    have hb := hI.blk (s := s) (k := k) h1 h2 hk (by omega)
    have e47 : ∀ s' : Int, s' < 5 → growV v (30 * s + k) (47 + s') = v (47 + s') := fun s' _ => growV_out v (by omega)
    have hc := hS.blk (s := s) (k := k) h1 h2 hk (by rw [e47 s h2]; omega)
    have hc9 := hc.2.2
    rw [growV_out v (by omega)] at hc9
    have hw := hS.agew (a := 30 * s + k) (v (357 + (30 * s + k)) + 1) (by omega) (by omega) (fun s' q1 q2 => by rw [e47 s' q2]; have := hI.sz q1 q2; omega)
    rw [growV_step v h1 hk (by omega) (by omega)] at hw
    obtain ⟨mS', g1, g2⟩ := ih fu (k + 1) _ (by omega) (by omega) (by omega) hw
    refine ⟨mS', ?_, g2⟩
    simp (disch := omega) only [f_X6_growOlder_L27, z_c1, z_add, z_sub, z_neg, y_neg, z_mul, z_div, z_l, y_i, y_add, y_sub, y_mul, y_div, z_lt, z_le, z_eq, y_c1, y_c2, y_c3, y_c4, y_c5, z_gi, bd1_s, bd2_s, mul30, z_ofNat, lt_eq, hc9]
    rw [if_neg (by omega), show 30 * s + k + 1 = 30 * s + (k + 1) by omega]
    exact g1
theorem s_grow2 {v : VI} {T : Int} (hI : IS T v) : ∀ (n fu : Nat) (s : Int) (mS : Mem), 0 ≤ s → s + n = v 1880 → n < fu → RS mS (growV v (30 * s)) →
    Ev (f_X6_growOlder_L2 fu (zI s) mS) (fun mS' => RS mS' (growV v (30 * v 1880))) := by
  have hb := hI.1
  intro n
  induction n with
  | zero =>
    intro fu s mS hk hn hf hS
    obtain ⟨fu, rfl⟩ : ∃ m, fu = m + 1 := ⟨fu - 1, by omega⟩
    have h1 := hS.1
    rw [growV_out v (by omega)] at h1
    simp (disch := omega) only [f_X6_growOlder_L2, z_c30, z_add, z_sub, z_neg, y_neg, z_mul, z_div, z_l, y_i, y_add, y_sub, y_mul, y_div, z_lt, z_le, z_eq, y_c1, y_c2, y_c3, y_c4, y_c5, z_gi, bd1_s, bd2_s, mul30, z_ofNat, lt_eq, h1]
    rw [if_pos (by omega)]
    rw [show s = v 1880 by omega] at hS
    exact Ev_some hS
  | succ n ih =>
    intro fu s mS hk hn hf hS
    obtain ⟨fu, rfl⟩ : ∃ m, fu = m + 1 := ⟨fu - 1, by omega⟩
    have hz := hI.sz (s := s) hk (by omega)
    have h1 := hS.1
    rw [growV_out v (by omega)] at h1
    have h5 := hS.sz (s := s) hk (by omega)
    rw [growV_out v (by omega)] at h5
    obtain ⟨mS', g1, g2⟩ := s_grow27 hI hk (by omega) (f_X6_growOlder_L2 fu) (v (47 + s)).toNat fuel 0 mS (by omega) (by omega) (fuel_gt (by omega)) (by rw [Int.add_zero]; exact hS)
    rw [Int.add_zero] at g1
    simp (disch := omega) only [f_X6_growOlder_L2, z_c30, z_add, z_sub, z_neg, y_neg, z_mul, z_div, z_l, y_i, y_add, y_sub, y_mul, y_div, z_lt, z_le, z_eq, y_c1, y_c2, y_c3, y_c4, y_c5, z_gi, bd1_s, bd2_s, mul30, z_ofNat, lt_eq, h1, h5]
    rw [if_neg (by omega), g1]
    exact ih fu (s + 1) mS' (by omega) (by omega) (by omega) g2
theorem s_grow {mS : Mem} {v : VI} {T : Int} (hS : RS mS v) (hI : IS T v) : Ev (f_X6_growOlder mS) (fun mS' => RS mS' (growV v (30 * v 1880))) := by
  have hb := hI.1
  unfold f_X6_growOlder
  rw [z_c0]
  exact s_grow2 hI (v 1880).toNat fuel 0 mS (by omega) (by omega) (fuel_gt (by omega)) (by rw [show 30 * (0 : Int) = 0 from rfl, growV_0]; exact hS)
theorem m_grow34 {mM : Mem} {v : VI} {sv tv : Nat → Int64} {T : Int} {s : Int} (hI : IS T v) (h1 : 0 ≤ s) (h2 : s < 5) (kk : Int32 → MemL → Option (Mem × MemL)) : ∀ (n fu : Nat) (k : Int) (nM : MemL), 0 ≤ k → k + n = v (47 + s) → n < fu → MR nM (growV v (30 * s + k)) sv tv →
    ∃ nM', f_X9_hour_L34 kk (zI s) mM fu (zI k) nM = kk (zI (s + 1)) nM' ∧ MR nM' (growV v (30 * (s + 1))) sv tv := by
  have hz := hI.sz h1 h2
  intro n
  induction n with
  | zero =>
    intro fu k nM hk hn hf hM
    obtain ⟨fu, rfl⟩ : ∃ m, fu = m + 1 := ⟨fu - 1, by omega⟩
    have hr := hM.rd (a := 47 + s) (by omega) (by omega)
    rw [growV_out v (by omega)] at hr
    refine ⟨nM, ?_, ?_⟩
    · simp (disch := omega) only [f_X9_hour_L34, z_c0, z_c1, z_c30, z_c47, z_c357, y_c1_, z_add, z_sub, z_neg, y_neg, z_mul, z_div, z_l, y_i, y_add, y_sub, y_mul, y_div, z_lt, z_le, z_eq, y_c1, y_c2, y_c3, y_c4, y_c5, z_gi, bd1_s, bd2_s, mul30, z_ofNat, lt_eq, hr]
      rw [if_pos (by omega)]
    · rw [← growV_next v h1 (by omega) (by omega), show v (47 + s) = k by omega]; exact hM
  | succ n ih =>
    intro fu k nM hk hn hf hM
    obtain ⟨fu, rfl⟩ : ∃ m, fu = m + 1 := ⟨fu - 1, by omega⟩
    have hr := hM.rd (a := 47 + s) (by omega) (by omega)
    rw [growV_out v (by omega)] at hr
    have hr2 := hM.rd (a := 357 + (30 * s + k)) (by omega) (by omega)
    rw [growV_out v (by omega)] at hr2
    simp (disch := omega) only [f_X9_hour_L34, z_c0, z_c1, z_c30, z_c47, z_c357, y_c1_, z_add, z_sub, z_neg, y_neg, z_mul, z_div, z_l, y_i, y_add, y_sub, y_mul, y_div, z_lt, z_le, z_eq, y_c1, y_c2, y_c3, y_c4, y_c5, z_gi, bd1_s, bd2_s, mul30, z_ofNat, hr, hr2, Int.add_assoc]
    rw [if_neg (by omega)]
    refine P_wr (P := fun z => ∃ nM', z = kk (zI (s + 1)) nM' ∧ MR nM' (growV v (30 * (s + 1))) sv tv) hM (by omega) (by omega) (fun nM hM => ?_)
    rw [growV_step v h1 hk (by omega) (by omega)] at hM
    simp only [lt_eq]
    exact ih fu (k + 1) nM (by omega) (by omega) (by omega) hM
theorem m_grow18 {mM : Mem} {v : VI} {sv tv : Nat → Int64} {T : Int} (hI : IS T v) : ∀ (n fu : Nat) (s : Int) (nM : MemL), 0 ≤ s → s + n = v 1880 → n < fu → MR nM (growV v (30 * s)) sv tv →
    Ev (f_X9_hour_L18 mM fu (zI s) nM) (fun r => r.1 = mM ∧ MR r.2 (upV (growV v (30 * v 1880)) 1875 (v 1875 + 1)) sv tv) := by
  have hb := hI.1
  intro n
  induction n with
  | zero =>
    intro fu s nM hk hn hf hM
    obtain ⟨fu, rfl⟩ : ∃ m, fu = m + 1 := ⟨fu - 1, by omega⟩
    have h1 := hM.rd (a := 1880) (by omega) (by omega)
    rw [growV_out v (by omega)] at h1
    have h2 := hM.rd (a := 1875) (by omega) (by omega)
    rw [growV_out v (by omega)] at h2
    simp (disch := omega) only [f_X9_hour_L18, z_c0, z_c1875, z_c1880, y_c1_, z_add, z_sub, z_neg, y_neg, z_mul, z_div, z_l, y_i, y_add, y_sub, y_mul, y_div, z_lt, z_le, z_eq, y_c1, y_c2, y_c3, y_c4, y_c5, z_gi, bd1_s, bd2_s, mul30, z_ofNat, h1, h2]
    rw [if_pos (by omega)]
    refine Ev_wr hM (by omega) (by omega) (fun nM hM => Ev_some ⟨rfl, ?_⟩)
    rw [show s = v 1880 by omega] at hM
    exact hM
  | succ n ih =>
    intro fu s nM hk hn hf hM
    obtain ⟨fu, rfl⟩ : ∃ m, fu = m + 1 := ⟨fu - 1, by omega⟩
    have hz := hI.sz (s := s) hk (by omega)
    have h1 := hM.rd (a := 1880) (by omega) (by omega)
    rw [growV_out v (by omega)] at h1
    obtain ⟨nM', g1, g2⟩ := m_grow34 (mM := mM) hI hk (by omega) (f_X9_hour_L18 mM fu) (v (47 + s)).toNat fuel 0 nM (by omega) (by omega) (fuel_gt (by omega)) (by rw [Int.add_zero]; exact hM)
    simp (disch := omega) only [f_X9_hour_L18, z_c0, z_c1875, z_c1880, y_c1_, z_add, z_sub, z_neg, y_neg, z_mul, z_div, z_l, y_i, y_add, y_sub, y_mul, y_div, z_lt, z_le, z_eq, y_c1, y_c2, y_c3, y_c4, y_c5, z_gi, bd1_s, bd2_s, mul30, z_ofNat, h1]
    rw [if_neg (by omega), g1]
    exact ih fu (s + 1) nM' (by omega) (by omega) (by omega) g2
/-- a move of the top block -/
def movV (v : VI) (s t : Int) : VI := upV (upV (filV v (30 * t + v (47 + t)) (v (57 + (30 * s + (v (47 + s) - 1)))) (v (207 + (30 * s + (v (47 + s) - 1)))) (v (357 + (30 * s + (v (47 + s) - 1))))) (47 + t) (v (47 + t) + 1)) (47 + s) (v (47 + s) - 1)
theorem s_moveTop {mS : Mem} {T : Int} {v : VI} (h : RS mS v) (hI : IS T v) {s t : Int} (h1 : 0 ≤ s) (h2 : s < v 1880) (h3 : 0 ≤ t) (h4 : t < v 1880) (hst : s ≠ t) (hs : 0 < v (47 + s)) (ht : v (47 + t) < v (32 + t)) : Ev (f_X6_moveTop (zI s) (zI t) mS) (fun r => r.1 = zI (v (57 + (30 * s + (v (47 + s) - 1)))) ∧ RS r.2 (movV v s t)) := by
  have hb := hI.1
  have hzs := hI.sz (s := s) h1 (by omega)
  have hzt := hI.sz (s := t) h3 (by omega)
  have hzz : ∀ s : Int, 0 ≤ s → s < 5 → v (47 + s) ≤ 30 := fun s q1 q2 => by have := hI.sz q1 q2; omega
  have hc := h.blk (s := s) (k := v (47 + s) - 1) h1 (by omega) (by omega) (by omega)
  have hst2 := h.sz (s := t) h3 (by omega)
  have hct := h.cap (s := t) h3 (by omega)
  have hsl := s_slotOf h hI (s := s) (k := v (47 + s) - 1) (by omega) (by omega) (by omega) (by omega)
  rw [if_pos (by omega)] at hsl
  have hhs := s_hasSilo h hI (a := t) (by omega) (by omega)
  rw [if_pos (by omega)] at hhs
  unfold f_X6_moveTop
  rw [s_valueIn (n := 5) h.2.2.2.2.2.1 (by omega) h1 (by omega), bd1_s, z_c1, z_sub, hsl, bd1_s, z_neg, hhs, bd1_s]
  simp (disch := omega) only [z_c0, z_c30, z_add, z_sub, z_neg, y_neg, z_mul, z_div, z_l, y_i, y_add, y_sub, y_mul, y_div, z_lt, z_le, z_eq, y_c1, y_c2, y_c3, y_c4, y_c5, z_gi, bd1_s, bd2_s, mul30, z_ofNat, lt_eq, hst2, hct, hc.1, hc.2.1, hc.2.2]
  rw [if_neg (by omega), if_neg (by omega), if_pos (by omega), s_fill _ _ _ _ (by omega) (by omega), bd1_s]
  have hw := h.fill (a := 30 * t + v (47 + t)) (v (57 + (30 * s + (v (47 + s) - 1)))) (v (207 + (30 * s + (v (47 + s) - 1)))) (v (357 + (30 * s + (v (47 + s) - 1)))) (by omega) (by omega) hzz
  have e47 : ∀ s' : Int, 0 ≤ s' → s' < 5 → filV v (30 * t + v (47 + t)) (v (57 + (30 * s + (v (47 + s) - 1)))) (v (207 + (30 * s + (v (47 + s) - 1)))) (v (357 + (30 * s + (v (47 + s) - 1)))) (47 + s') = v (47 + s') := fun s' q1 q2 => filV_out v (by omega)
  have hzz2 : ∀ s' : Int, 0 ≤ s' → s' < 5 → filV v (30 * t + v (47 + t)) (v (57 + (30 * s + (v (47 + s) - 1)))) (v (207 + (30 * s + (v (47 + s) - 1)))) (v (357 + (30 * s + (v (47 + s) - 1)))) (47 + s') ≤ 30 := fun s' q1 q2 => by rw [e47 s' q1 q2]; exact hzz s' q1 q2
  have hszt := hw.sz (s := t) h3 (by omega)
  rw [e47 t h3 (by omega)] at hszt
  have hw2 := hw.size (s := t) (x := v (47 + t) + 1) h3 (by omega) (by omega) (fun k q0 q1 q2 => by
    rw [e47 t h3 (by omega)] at q1
    have ek : k = v (47 + t) := by omega
    subst ek
    rw [fill_7, fill_8, fill_9, upd_rd _ _ (by omega) (by omega) (by omega) (by omega), upd_rd _ _ (by omega) (by omega) (by omega) (by omega), upd_rd _ _ (by omega) (by omega) (by omega) (by omega), if_pos rfl, if_pos rfl, if_pos rfl]
    unfold filV
    simp (disch := omega) only [upV_ne, upV_at, and_self]) hzz2
  have hcell : fillM mS (30 * t + v (47 + t)) (zI (v (57 + (30 * s + (v (47 + s) - 1))))) (zI (v (207 + (30 * s + (v (47 + s) - 1))))) (zI (v (357 + (30 * s + (v (47 + s) - 1))))) 7 (zI (30 * s + (v (47 + s) - 1))).toNatClampNeg = zI (v (57 + (30 * s + (v (47 + s) - 1)))) := by
    rw [fill_7, upd_rd _ _ (by omega) (by omega) (by omega) (by omega), if_neg (by omega)]; exact hc.1
  generalize fillM mS (30 * t + v (47 + t)) (zI (v (57 + (30 * s + (v (47 + s) - 1))))) (zI (v (207 + (30 * s + (v (47 + s) - 1))))) (zI (v (357 + (30 * s + (v (47 + s) - 1))))) = M1 at hw hw2 hszt hcell ⊢
  simp (disch := omega) only [z_gi, hszt, z_add]
  refine Ev_lt ?_
  have hzz3 : ∀ s' : Int, 0 ≤ s' → s' < 5 → upV (filV v (30 * t + v (47 + t)) (v (57 + (30 * s + (v (47 + s) - 1)))) (v (207 + (30 * s + (v (47 + s) - 1)))) (v (357 + (30 * s + (v (47 + s) - 1))))) (47 + t) (v (47 + t) + 1) (47 + s') ≤ 30 := fun s' q1 q2 => by
    by_cases e : s' = t
    · subst e; rw [upV_same]; omega
    · rw [upV_ne _ _ (by omega)]; exact hzz2 s' q1 q2
  have hszs := hw2.sz (s := s) h1 (by omega)
  rw [upV_ne _ _ (by omega), e47 s h1 (by omega)] at hszs
  have hcell2 : wrI M1 5 (upd (M1 5) (zI t).toNatClampNeg (zI (v (47 + t) + 1))) 7 (zI (30 * s + (v (47 + s) - 1))).toNatClampNeg = zI (v (57 + (30 * s + (v (47 + s) - 1)))) := by
    rw [wrI_ne _ _ (by decide)]; exact hcell
  have hw3 := hw2.size (s := s) (x := v (47 + s) - 1) h1 (by omega) (by omega) (fun k q0 q1 q2 => by rw [upV_ne _ _ (by omega), e47 s h1 (by omega)] at q1; omega) hzz3
  generalize wrI M1 5 (upd (M1 5) (zI t).toNatClampNeg (zI (v (47 + t) + 1))) = M2 at hw2 hszs hcell2 hw3 ⊢
  simp (disch := omega) only [z_gi, hszs, z_sub]
  refine Ev_lt (Ev_some ⟨?_, hw3⟩)
  rw [wrI_ne _ _ (by decide)]; exact hcell2
theorem m_doMove {mM : Mem} {nM : MemL} {sv tv : Nat → Int64} {T : Int} {v : VI} (hM : MR nM v sv tv) (hI : IS T v) {s t : Int} (h1 : 0 ≤ s) (h2 : s < v 1880) (h3 : 0 ≤ t) (h4 : t < v 1880) (hst : s ≠ t) (hs : 0 < v (47 + s)) (ht : v (47 + t) < v (32 + t)) : Ev (f_X9_doMove (zI s) (zI t) mM nM) (fun r => r.1 = zI (v (57 + (30 * s + (v (47 + s) - 1)))) ∧ MR r.2 (movV v s t) sv tv) := by
  have hb := hI.1
  have hzs := hI.sz (s := s) h1 (by omega)
  have hzt := hI.sz (s := t) h3 (by omega)
  simp (disch := omega) only [f_X9_doMove, z_c30, z_c47, z_c57, z_c207, z_c357, y_c1_, z_add, z_sub, z_neg, y_neg, z_mul, z_div, z_l, y_i, y_add, y_sub, y_mul, y_div, z_lt, z_le, z_eq, y_c1, y_c2, y_c3, y_c4, y_c5, z_gi, bd1_s, bd2_s, mul30, z_ofNat, hM.rd]
  refine Ev_wr hM (by omega) (by omega) (fun nM hM => ?_)
  simp (disch := omega) only [z_add, z_sub, z_neg, y_neg, z_mul, z_div, z_l, y_i, y_add, y_sub, y_mul, y_div, z_lt, z_le, z_eq, y_c1, y_c2, y_c3, y_c4, y_c5, z_gi, bd1_s, bd2_s, mul30, z_ofNat, z_c30, hM.rd, upV_same, upV_ne]
  refine Ev_lt (Ev_lt ?_)
  simp (disch := omega) only [z_add, z_sub, z_neg, y_neg, z_mul, z_div, z_l, y_i, y_add, y_sub, y_mul, y_div, z_lt, z_le, z_eq, y_c1, y_c2, y_c3, y_c4, y_c5, z_gi, bd1_s, bd2_s, mul30, z_ofNat, hM.rd, upV_ne]
  refine Ev_wr hM (by omega) (by omega) (fun nM hM => ?_)
  simp (disch := omega) only [z_add, z_sub, z_neg, y_neg, z_mul, z_div, z_l, y_i, y_add, y_sub, y_mul, y_div, z_lt, z_le, z_eq, y_c1, y_c2, y_c3, y_c4, y_c5, z_gi, bd1_s, bd2_s, mul30, z_ofNat, hM.rd, upV_ne]
  refine Ev_wr hM (by omega) (by omega) (fun nM hM => ?_)
  simp (disch := omega) only [z_add, z_sub, z_neg, y_neg, z_mul, z_div, z_l, y_i, y_add, y_sub, y_mul, y_div, z_lt, z_le, z_eq, y_c1, y_c2, y_c3, y_c4, y_c5, z_gi, bd1_s, bd2_s, mul30, z_ofNat, hM.rd, upV_ne]
  refine Ev_wr hM (by omega) (by omega) (fun nM hM => ?_)
  simp (disch := omega) only [z_add, z_sub, z_neg, y_neg, z_mul, z_div, z_l, y_i, y_add, y_sub, y_mul, y_div, z_lt, z_le, z_eq, y_c1, y_c2, y_c3, y_c4, y_c5, z_gi, bd1_s, bd2_s, mul30, z_ofNat, hM.rd, upV_ne]
  refine Ev_wr hM (by omega) (by omega) (fun nM hM => ?_)
  simp (disch := omega) only [z_add, z_sub, z_neg, y_neg, z_mul, z_div, z_l, y_i, y_add, y_sub, y_mul, y_div, z_lt, z_le, z_eq, y_c1, y_c2, y_c3, y_c4, y_c5, z_gi, bd1_s, bd2_s, mul30, z_ofNat, hM.rd, upV_ne, upV_same]
  refine Ev_some ⟨rfl, hM.cg fun j q1 q2 => ?_⟩
  unfold movV filV
  simp only [upV]
  repeat' split
  all_goals first | rfl | omega
/-- a new silo -/
def silV (v : VI) (c r t : Int) : VI := upV (upV (upV (upV v (32 + v 1880) c) (37 + v 1880) r) (42 + v 1880) t) 1880 (v 1880 + 1)
theorem s_addSilo {mS : Mem} {T : Int} {v : VI} (h : RS mS v) (hI : IS T v) (hlt : v 1880 < 5) (c r t : Int) : Ev (f_X6_addOne (zI c) (zI r) (zI t) mS) (fun q => q.1 = zI (v 1880) ∧ RS q.2 (silV v c r t)) := by
  have hb := hI.1
  have h3 := (hI.2.2.1 (v 1880) hb.1 hlt)
  have hz47 := h3.2.2.2.2.2 (Int.le_refl _)
  obtain ⟨g1, g2, g3, g4, g5, g6, g7, g8⟩ := h
  simp (disch := omega) only [f_X6_addOne, z_c0, z_c1, z_c5, z_add, z_sub, z_neg, y_neg, z_mul, z_div, z_l, y_i, y_add, y_sub, y_mul, y_div, z_lt, z_le, z_eq, y_c1, y_c2, y_c3, y_c4, y_c5, z_gi, bd1_s, bd2_s, mul30, z_ofNat, g1]
  rw [if_pos (by omega)]
  refine Ev_lt ?_
  simp (disch := omega) only [wrI_ne, g1, z_gi]
  refine Ev_lt ?_
  simp (disch := omega) only [wrI_ne, g1, z_gi]
  refine Ev_lt ?_
  simp (disch := omega) only [wrI_ne, g1, z_gi]
  refine Ev_lt ?_
  simp (disch := omega) only [wrI_ne, g1, z_gi]
  refine Ev_lt ?_
  simp (disch := omega) only [wrI_ne, g1, z_gi]
  refine Ev_lt ?_
  simp (disch := omega) only [wrI_ne, wrI_same, g1, z_add, z_sub]
  refine Ev_some ⟨by show zI (v 1880 + 1 - 1) = zI (v 1880); rw [show v 1880 + 1 - 1 = v 1880 by omega], ?_⟩
  unfold RS
  simp (disch := omega) only [wrI_ne, wrI_same]
  refine ⟨?_, ?_, ?_, ?_, ?_, ?_, ?_, fun s k q1 q2 q3 q4 => ?_⟩
  · unfold silV; rw [upV_same]
  · unfold silV; simp (disch := omega) only [upV_ne]; exact g2
  · refine (g3.wr hb.1 hlt (by omega) c).cg fun k q1 q2 => ?_
    unfold silV; simp (disch := omega) only [upV_ne]
    unfold upV
    by_cases e : k = v 1880
    · rw [if_pos (by omega), if_pos e]
    · rw [if_neg (by omega), if_neg e]
  · refine (g4.wr hb.1 hlt (by omega) r).cg fun k q1 q2 => ?_
    unfold silV; simp (disch := omega) only [upV_ne]
    unfold upV
    by_cases e : k = v 1880
    · rw [if_pos (by omega), if_pos e]
    · rw [if_neg (by omega), if_neg e, if_neg (by omega)]
  · refine (g5.wr hb.1 hlt (by omega) t).cg fun k q1 q2 => ?_
    unfold silV
    unfold upV
    by_cases e : k = v 1880
    · rw [if_neg (by omega), if_pos (by omega), if_pos e]
    · rw [if_neg (by omega), if_neg (by omega), if_neg (by omega), if_neg (by omega), if_neg e]
  · refine (g6.wr hb.1 hlt (by omega) 0).cg fun k q1 q2 => ?_
    unfold silV upV
    rw [if_neg (by omega), if_neg (by omega), if_neg (by omega), if_neg (by omega)]
    by_cases e : k = v 1880
    · subst e; rw [if_pos rfl]; exact hz47.1
    · rw [if_neg e]
  · refine (g7.wr hb.1 hlt (by omega) 0).cg fun k q1 q2 => ?_
    unfold silV upV
    rw [if_neg (by omega), if_neg (by omega), if_neg (by omega), if_neg (by omega)]
    by_cases e : k = v 1880
    · subst e; rw [if_pos rfl]; exact hz47.2
    · rw [if_neg e]
  · have e : ∀ j : Int, 47 ≤ j → j < 507 → silV v c r t j = v j := fun j a1 a2 => by
      unfold silV; simp (disch := omega) only [upV_ne]
    rw [e _ (by omega) (by omega)] at q4
    have := hI.sz q1 q2
    rw [e _ (by omega) (by omega), e _ (by omega) (by omega), e _ (by omega) (by omega)]
    exact g8 s k q1 q2 q3 q4
