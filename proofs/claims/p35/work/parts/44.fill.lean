/-! writes of the silos' rows: a slot is filled, a size changes -/
theorem upV_at (v : VI) {k j : Int} (x : Int) (h : j = k) : upV v k x j = x := if_pos h
def fillM (mS : Mem) (a : Int) (x y z : Int32) : Mem := wrI (wrI (wrI mS 7 (upd (mS 7) (zI a).toNatClampNeg x)) 8 (upd (mS 8) (zI a).toNatClampNeg y)) 9 (upd (mS 9) (zI a).toNatClampNeg z)
theorem s_fill (mS : Mem) {a : Int} (x y z : Int32) (h1 : 0 ≤ a) (h2 : a < 150) : f_X6_fillSlot (zI a) x y z mS = some (fillM mS a x y z) := by
  unfold f_X6_fillSlot fillM
  simp (disch := omega) only [z_gi, lt_eq]
  rfl
theorem fill_ne (mS : Mem) (a : Int) (x y z : Int32) {j : Nat} (h7 : j ≠ 7) (h8 : j ≠ 8) (h9 : j ≠ 9) : fillM mS a x y z j = mS j := by
  unfold fillM
  rw [wrI_ne _ _ h9, wrI_ne _ _ h8, wrI_ne _ _ h7]
theorem fill_7 (mS : Mem) (a : Int) (x y z : Int32) : fillM mS a x y z 7 = upd (mS 7) (zI a).toNatClampNeg x := rfl
theorem fill_8 (mS : Mem) (a : Int) (x y z : Int32) : fillM mS a x y z 8 = upd (mS 8) (zI a).toNatClampNeg y := rfl
theorem fill_9 (mS : Mem) (a : Int) (x y z : Int32) : fillM mS a x y z 9 = upd (mS 9) (zI a).toNatClampNeg z := rfl
/-- the numbers behind a filled slot -/
def filV (v : VI) (a x y z : Int) : VI := upV (upV (upV v (57 + a) x) (207 + a) y) (357 + a) z
theorem RS.cg {mS : Mem} {v v' : VI} (h : RS mS v) (e1 : v' 1880 = v 1880) (e2 : v' 1887 = v 1887) (e3 : ∀ k : Int, 32 ≤ k → k < 507 → v' k = v k) (hz : ∀ s : Int, 0 ≤ s → s < 5 → v (47 + s) ≤ 30) : RS mS v' := by
  obtain ⟨h1, h2, h3, h4, h5, h6, h7, h8⟩ := h
  refine ⟨by rw [e1]; exact h1, by rw [e2]; exact h2, h3.cg fun k q1 q2 => e3 _ (by omega) (by omega), h4.cg fun k q1 q2 => e3 _ (by omega) (by omega), h5.cg fun k q1 q2 => e3 _ (by omega) (by omega), h6.cg fun k q1 q2 => e3 _ (by omega) (by omega), h7.cg fun k q1 q2 => e3 _ (by omega) (by omega), fun s k q1 q2 q3 q4 => ?_⟩
  have := hz s q1 q2
  rw [e3 _ (by omega) (by omega)] at q4
  rw [e3 _ (by omega) (by omega), e3 _ (by omega) (by omega), e3 _ (by omega) (by omega)]
  exact h8 s k q1 q2 q3 q4
theorem RS.fill {mS : Mem} {v : VI} (h : RS mS v) {a : Int} (x y z : Int) (h1 : 0 ≤ a) (h2 : a < 150) (hz : ∀ s : Int, 0 ≤ s → s < 5 → v (47 + s) ≤ 30) : RS (fillM mS a (zI x) (zI y) (zI z)) (filV v a x y z) := by
  obtain ⟨g1, g2, g3, g4, g5, g6, g7, g8⟩ := h
  unfold RS
  rw [fill_ne _ _ _ _ _ (by decide) (by decide) (by decide), fill_ne _ _ _ _ _ (by decide) (by decide) (by decide), fill_ne _ _ _ _ _ (by decide) (by decide) (by decide), fill_ne _ _ _ _ _ (by decide) (by decide) (by decide), fill_ne _ _ _ _ _ (by decide) (by decide) (by decide), fill_ne _ _ _ _ _ (by decide) (by decide) (by decide), fill_ne _ _ _ _ _ (by decide) (by decide) (by decide)]
  refine ⟨?_, ?_, ?_, ?_, ?_, ?_, ?_, ?_⟩
  · unfold filV; simp (disch := omega) only [upV_ne]; exact g1
  · unfold filV; simp (disch := omega) only [upV_ne]; exact g2
  · refine g3.cg fun k q1 q2 => ?_; unfold filV; simp (disch := omega) only [upV_ne]
  · refine g4.cg fun k q1 q2 => ?_; unfold filV; simp (disch := omega) only [upV_ne]
  · refine g5.cg fun k q1 q2 => ?_; unfold filV; simp (disch := omega) only [upV_ne]
  · refine g6.cg fun k q1 q2 => ?_; unfold filV; simp (disch := omega) only [upV_ne]
  · refine g7.cg fun k q1 q2 => ?_; unfold filV; simp (disch := omega) only [upV_ne]
  · intro s k q1 q2 q3 q4
    have hs := hz s q1 q2
    have e47 : filV v a x y z (47 + s) = v (47 + s) := by unfold filV; simp (disch := omega) only [upV_ne]
    rw [e47] at q4
    have g := g8 s k q1 q2 q3 q4
    rw [fill_7, fill_8, fill_9, upd_rd _ _ h1 (by omega) (by omega) (by omega), upd_rd _ _ h1 (by omega) (by omega) (by omega), upd_rd _ _ h1 (by omega) (by omega) (by omega)]
    by_cases e : 30 * s + k = a
    · rw [if_pos e, if_pos e, if_pos e, e]
      unfold filV
      simp (disch := omega) only [upV_ne, upV_at, and_self]
    · rw [if_neg e, if_neg e, if_neg e]
      unfold filV
      simp (disch := omega) only [upV_ne]
      exact g
theorem RS.size {mS : Mem} {v : VI} (h : RS mS v) {s x : Int} (h1 : 0 ≤ s) (h2 : s < 5) (hx : x ≤ 30) (hc : ∀ k : Int, 0 ≤ k → v (47 + s) ≤ k → k < x → mS 7 (zI (30 * s + k)).toNatClampNeg = zI (v (57 + (30 * s + k))) ∧ mS 8 (zI (30 * s + k)).toNatClampNeg = zI (v (207 + (30 * s + k))) ∧ mS 9 (zI (30 * s + k)).toNatClampNeg = zI (v (357 + (30 * s + k)))) (hz : ∀ s : Int, 0 ≤ s → s < 5 → v (47 + s) ≤ 30) : RS (wrI mS 5 (upd (mS 5) (zI s).toNatClampNeg (zI x))) (upV v (47 + s) x) := by
  obtain ⟨g1, g2, g3, g4, g5, g6, g7, g8⟩ := h
  unfold RS
  rw [wrI_same, wrI_ne _ _ (by decide), wrI_ne _ _ (by decide), wrI_ne _ _ (by decide), wrI_ne _ _ (by decide), wrI_ne _ _ (by decide), wrI_ne _ _ (by decide), wrI_ne _ _ (by decide), wrI_ne _ _ (by decide), wrI_ne _ _ (by decide)]
  refine ⟨?_, ?_, ?_, ?_, ?_, ?_, ?_, ?_⟩
  · simp (disch := omega) only [upV_ne]; exact g1
  · simp (disch := omega) only [upV_ne]; exact g2
  · refine g3.cg fun k q1 q2 => ?_; simp (disch := omega) only [upV_ne]
  · refine g4.cg fun k q1 q2 => ?_; simp (disch := omega) only [upV_ne]
  · refine g5.cg fun k q1 q2 => ?_; simp (disch := omega) only [upV_ne]
  · refine (g6.wr h1 h2 (by omega) x).cg fun k q1 q2 => ?_
    unfold upV
    by_cases e : k = s
    · rw [if_pos e, if_pos (by omega)]
    · rw [if_neg e, if_neg (by omega)]
  · refine g7.cg fun k q1 q2 => ?_; simp (disch := omega) only [upV_ne]
  · intro s' k q1 q2 q3 q4
    have hs := hz s' q1 q2
    by_cases e : s' = s
    · subst e
      rw [upV_same] at q4
      simp (disch := omega) only [upV_ne]
      by_cases c : k < v (47 + s')
      · exact g8 s' k q1 q2 q3 c
      · exact hc k q3 (by omega) q4
    · rw [upV_ne _ _ (by omega)] at q4
      simp (disch := omega) only [upV_ne]
      exact g8 s' k q1 q2 q3 q4
theorem RS.serial {mS : Mem} {v : VI} (h : RS mS v) (x : Int) (hz : ∀ s : Int, 0 ≤ s → s < 5 → v (47 + s) ≤ 30) : RS (wrI mS 1 (fun _ => zI x)) (upV v 1887 x) := by
  obtain ⟨g1, g2, g3, g4, g5, g6, g7, g8⟩ := h
  unfold RS
  rw [wrI_same, wrI_ne _ _ (by decide), wrI_ne _ _ (by decide), wrI_ne _ _ (by decide), wrI_ne _ _ (by decide), wrI_ne _ _ (by decide), wrI_ne _ _ (by decide), wrI_ne _ _ (by decide), wrI_ne _ _ (by decide), wrI_ne _ _ (by decide)]
  refine ⟨?_, by rw [upV_same], ?_, ?_, ?_, ?_, ?_, ?_⟩
  · simp (disch := omega) only [upV_ne]; exact g1
  · refine g3.cg fun k q1 q2 => ?_; simp (disch := omega) only [upV_ne]
  · refine g4.cg fun k q1 q2 => ?_; simp (disch := omega) only [upV_ne]
  · refine g5.cg fun k q1 q2 => ?_; simp (disch := omega) only [upV_ne]
  · refine g6.cg fun k q1 q2 => ?_; simp (disch := omega) only [upV_ne]
  · refine g7.cg fun k q1 q2 => ?_; simp (disch := omega) only [upV_ne]
  · intro s' k q1 q2 q3 q4
    have hs := hz s' q1 q2
    rw [upV_ne _ _ (by omega)] at q4
    simp (disch := omega) only [upV_ne]
    exact g8 s' k q1 q2 q3 q4
/-- the slots from a on are moved down by one, up to i -/
def shV (v : VI) (a i : Int) : VI := fun j => if (57 + a ≤ j ∧ j < 57 + i) ∨ (207 + a ≤ j ∧ j < 207 + i) ∨ (357 + a ≤ j ∧ j < 357 + i) then v (j + 1) else v j
theorem shV_0 (v : VI) (a : Int) : shV v a a = v := by
  funext j; unfold shV; rw [if_neg (by omega)]
theorem shV_out (v : VI) {a i j : Int} (h : ¬ ((57 + a ≤ j ∧ j < 57 + i) ∨ (207 + a ≤ j ∧ j < 207 + i) ∨ (357 + a ≤ j ∧ j < 357 + i))) : shV v a i j = v j := if_neg h
theorem shV_step (v : VI) {a i : Int} (h0 : 0 ≤ a) (h1 : a ≤ i) (h2 : i < 149) : filV (shV v a i) i (v (57 + (i + 1))) (v (207 + (i + 1))) (v (357 + (i + 1))) = shV v a (i + 1) := by
  funext j
  simp only [filV, upV, shV]
  repeat' split
  all_goals first | rfl | omega | exact congrArg v (by omega)
def remV (v : VI) (s k : Int) : VI := upV (shV v (30 * s + k) (30 * s + v (47 + s) - 1)) (47 + s) (v (47 + s) - 1)
theorem shV_sz (v : VI) {a i s : Int} (h0 : 0 ≤ a) (h1 : i < 150) (h2 : 0 ≤ s) (h3 : s < 5) : shV v a i (47 + s) = v (47 + s) := shV_out v (by omega)
theorem s_rem43 {mS : Mem} {T : Int} {v : VI} (h : RS mS v) (hI : IS T v) {s k : Int} (h1 : 0 ≤ s) (h2 : s < 5) (h3 : 0 ≤ k) (h4 : k < v (47 + s)) (x2 : Int32) : ∀ (n fu : Nat) (i : Int) (mS : Mem), 30 * s + k ≤ i → i + n = 30 * s + v (47 + s) - 1 → n < fu → RS mS (shV v (30 * s + k) i) →
    Ev (f_X6_removeBlock_L43 x2 (zI s) (zI (30 * s + v (47 + s))) fu (zI (i + 1)) mS) (fun r => r.1 = x2 ∧ RS r.2 (remV v s k)) := by
  have hz := hI.sz h1 h2
  have hzz : ∀ (i : Int), i < 150 → ∀ s' : Int, 0 ≤ s' → s' < 5 → shV v (30 * s + k) i (47 + s') ≤ 30 := fun i hi s' q1 q2 => by
    rw [shV_sz v (by omega) hi q1 q2]; have := hI.sz q1 q2; omega
  intro n
  induction n with
  | zero =>
    intro fu i mS hk hn hf h
    obtain ⟨fu, rfl⟩ : ∃ m, fu = m + 1 := ⟨fu - 1, by omega⟩
    have e := shV_sz v (a := 30 * s + k) (i := i) (by omega) (by omega) h1 h2
    have hr := h.sz h1 h2
    rw [e] at hr
    simp (disch := omega) only [f_X6_removeBlock_L43, z_c1, z_add, z_sub, z_neg, y_neg, z_mul, z_div, z_l, y_i, y_add, y_sub, y_mul, y_div, z_lt, z_le, z_eq, y_c1, y_c2, y_c3, y_c4, y_c5, z_gi, bd1_s, bd2_s, mul30, z_ofNat, lt_eq, hr]
    rw [if_pos (by omega)]
    refine Ev_some ⟨rfl, ?_⟩
    have hw := h.size h1 h2 (x := v (47 + s) - 1) (by omega) (fun k q0 q1 q2 => by rw [e] at q1; omega) (hzz i (by omega))
    rw [show i = 30 * s + v (47 + s) - 1 by omega] at hw
    exact hw
  | succ n ih =>
    intro fu i mS hk hn hf h
    obtain ⟨fu, rfl⟩ : ∃ m, fu = m + 1 := ⟨fu - 1, by omega⟩
    have e := shV_sz v (a := 30 * s + k) (i := i) (by omega) (by omega) h1 h2
    have hb := h.blk (k := i + 1 - 30 * s) h1 h2 (by omega) (by rw [e]; omega)
    rw [show 30 * s + (i + 1 - 30 * s) = i + 1 by omega, shV_out v (by omega), shV_out v (by omega), shV_out v (by omega)] at hb
    simp (disch := omega) only [f_X6_removeBlock_L43, z_c1, z_add, z_sub, z_neg, y_neg, z_mul, z_div, z_l, y_i, y_add, y_sub, y_mul, y_div, z_lt, z_le, z_eq, y_c1, y_c2, y_c3, y_c4, y_c5, z_gi, bd1_s, bd2_s, mul30, z_ofNat, lt_eq, hb.1, hb.2.1, hb.2.2]
    rw [if_neg (by omega), show i + 1 - 1 = i by omega, s_fill _ _ _ _ (by omega) (by omega), bd1_s]
    refine ih fu (i + 1) _ (by omega) (by omega) (by omega) ?_
    have hw := h.fill (a := i) (v (57 + (i + 1))) (v (207 + (i + 1))) (v (357 + (i + 1))) (by omega) (by omega) (hzz i (by omega))
    rw [shV_step v (by omega) hk (by omega)] at hw
    exact hw
theorem s_remove {mS : Mem} {T : Int} {v : VI} (h : RS mS v) (hI : IS T v) {s k : Int} (h1 : 0 ≤ s) (h2 : s < 5) (h3 : 0 ≤ k) (h4 : k < v (47 + s)) : Ev (f_X6_removeBlock (zI (30 * s + k)) mS) (fun r => r.1 = zI (v (207 + (30 * s + k))) ∧ RS r.2 (remV v s k)) := by
  have hz := hI.sz h1 h2
  have hb := h.blk h1 h2 h3 h4
  have e : (30 * s + k) / 30 = s := by omega
  have hsz := h.sz h1 h2
  simp (disch := omega) only [f_X6_removeBlock, z_c0, z_c1, z_c30, z_c150, z_add, z_sub, z_neg, y_neg, z_mul, z_div, z_l, y_i, y_add, y_sub, y_mul, y_div, z_lt, z_le, z_eq, y_c1, y_c2, y_c3, y_c4, y_c5, z_gi, bd1_s, bd2_s, mul30, z_ofNat, lt_eq, hb.2.1, e, hsz]
  rw [if_neg (by omega), if_pos (by omega)]
  exact s_rem43 h hI h1 h2 h3 h4 _ (30 * s + v (47 + s) - 1 - (30 * s + k)).toNat fuel (30 * s + k) mS (by omega) (by omega) (fuel_gt (by omega)) (by rw [shV_0]; exact h)
theorem m_rem20 {mM : Mem} {v : VI} {sv tv : Nat → Int64} {s : Int} (hz : v (47 + s) ≤ 30) {k : Int} (h1 : 0 ≤ s) (h2 : s < 5) (h3 : 0 ≤ k) (h4 : k < v (47 + s)) : ∀ (n fu : Nat) (i : Int) (nM : MemL), 30 * s + k ≤ i → i + n = 30 * s + v (47 + s) - 1 → n < fu → MR nM (upV (shV v (30 * s + k) i) (47 + s) (v (47 + s) - 1)) sv tv →
    Ev (f_X9_removeBlock_L20 (zI s) mM fu (zI i) nM) (fun nM' => MR nM' (remV v s k) sv tv) := by
  intro n
  induction n with
  | zero =>
    intro fu i nM hk hn hf hM
    obtain ⟨fu, rfl⟩ : ∃ m, fu = m + 1 := ⟨fu - 1, by omega⟩
    have hr := hM.rd (a := 47 + s) (by omega) (by omega)
    rw [upV_same] at hr
    simp (disch := omega) only [f_X9_removeBlock_L20, z_c0, z_c1, z_c30, z_c47, z_c57, z_c207, z_c357, z_add, z_sub, z_neg, y_neg, z_mul, z_div, z_l, y_i, y_add, y_sub, y_mul, y_div, z_lt, z_le, z_eq, y_c1, y_c2, y_c3, y_c4, y_c5, z_gi, bd1_s, bd2_s, mul30, z_ofNat, lt_eq, hr]
    rw [if_pos (by omega)]
    rw [show i = 30 * s + v (47 + s) - 1 by omega] at hM
    exact Ev_some hM
  | succ n ih =>
    intro fu i nM hk hn hf hM
    obtain ⟨fu, rfl⟩ : ∃ m, fu = m + 1 := ⟨fu - 1, by omega⟩
    have hr := hM.rd (a := 47 + s) (by omega) (by omega)
    rw [upV_same] at hr
    have hs := shV_step v (a := 30 * s + k) (i := i) (by omega) hk (by omega)
    simp (disch := omega) only [f_X9_removeBlock_L20, z_c0, z_c1, z_c30, z_c47, z_c57, z_c207, z_c357, z_add, z_sub, z_neg, y_neg, z_mul, z_div, z_l, y_i, y_add, y_sub, y_mul, y_div, z_lt, z_le, z_eq, y_c1, y_c2, y_c3, y_c4, y_c5, z_gi, bd1_s, bd2_s, mul30, z_ofNat, hr, hM.rd, Int.add_assoc]
    rw [if_neg (by omega)]
    refine Ev_wr hM (by omega) (by omega) (fun nM hM => ?_)
    simp (disch := omega) only [z_gi, hM.rd]
    refine Ev_wr hM (by omega) (by omega) (fun nM hM => ?_)
    simp (disch := omega) only [z_gi, hM.rd]
    refine Ev_wr hM (by omega) (by omega) (fun nM hM => ?_)
    simp (disch := omega) only [lt_eq]
    refine ih fu (i + 1) nM (by omega) (by omega) (by omega) (hM.cg fun j q1 q2 => ?_)
    rw [← hs]
    simp only [filV, upV, shV]
    repeat' split
    all_goals first | rfl | omega | exact congrArg v (by omega)
theorem m_remove {mM : Mem} {nM : MemL} {sv tv : Nat → Int64} {v : VI} (hM : MR nM v sv tv) {s k : Int} (hz : v (47 + s) ≤ 30) (h1 : 0 ≤ s) (h2 : s < 5) (h3 : 0 ≤ k) (h4 : k < v (47 + s)) : Ev (f_X9_removeBlock (zI s) (zI k) mM nM) (fun nM' => MR nM' (remV v s k) sv tv) := by
  simp (disch := omega) only [f_X9_removeBlock, z_c30, z_c47, y_c1_, z_add, z_sub, z_neg, y_neg, z_mul, z_div, z_l, y_i, y_add, y_sub, y_mul, y_div, z_lt, z_le, z_eq, y_c1, y_c2, y_c3, y_c4, y_c5, z_gi, bd1_s, bd2_s, mul30, z_ofNat, hM.rd]
  refine Ev_wr hM (by omega) (by omega) (fun nM hM => ?_)
  simp only [lt_eq]
  exact m_rem20 hz h1 h2 h3 h4 (30 * s + v (47 + s) - 1 - (30 * s + k)).toNat fuel (30 * s + k) nM (by omega) (by omega) (fuel_gt (by omega)) (by rw [shV_0]; exact hM)
theorem RS.cgL {mS : Mem} {v v' : VI} (h : RS mS v) (e1 : v' 1880 = v 1880) (e2 : v' 1887 = v 1887) (e3 : ∀ k : Int, 32 ≤ k → k < 57 → v' k = v k) (e4 : ∀ s k : Int, 0 ≤ s → s < 5 → 0 ≤ k → k < v (47 + s) → v' (57 + (30 * s + k)) = v (57 + (30 * s + k)) ∧ v' (207 + (30 * s + k)) = v (207 + (30 * s + k)) ∧ v' (357 + (30 * s + k)) = v (357 + (30 * s + k))) : RS mS v' := by
  obtain ⟨h1, h2, h3, h4, h5, h6, h7, h8⟩ := h
  refine ⟨by rw [e1]; exact h1, by rw [e2]; exact h2, h3.cg fun k q1 q2 => e3 _ (by omega) (by omega), h4.cg fun k q1 q2 => e3 _ (by omega) (by omega), h5.cg fun k q1 q2 => e3 _ (by omega) (by omega), h6.cg fun k q1 q2 => e3 _ (by omega) (by omega), h7.cg fun k q1 q2 => e3 _ (by omega) (by omega), fun s k q1 q2 q3 q4 => ?_⟩
  rw [e3 _ (by omega) (by omega)] at q4
  obtain ⟨g1, g2, g3⟩ := e4 s k q1 q2 q3 q4
  rw [g1, g2, g3]
  exact h8 s k q1 q2 q3 q4
theorem RS.melw {mS : Mem} {v : VI} (h : RS mS v) {s : Int} (x : Int) (h1 : 0 ≤ s) (h2 : s < 5) (hz : ∀ s : Int, 0 ≤ s → s < 5 → v (47 + s) ≤ 30) : RS (wrI mS 6 (upd (mS 6) (zI s).toNatClampNeg (zI x))) (upV v (52 + s) x) := by
  obtain ⟨g1, g2, g3, g4, g5, g6, g7, g8⟩ := h
  unfold RS
  rw [wrI_same, wrI_ne _ _ (by decide), wrI_ne _ _ (by decide), wrI_ne _ _ (by decide), wrI_ne _ _ (by decide), wrI_ne _ _ (by decide), wrI_ne _ _ (by decide), wrI_ne _ _ (by decide), wrI_ne _ _ (by decide), wrI_ne _ _ (by decide)]
  refine ⟨?_, ?_, ?_, ?_, ?_, ?_, ?_, ?_⟩
  · simp (disch := omega) only [upV_ne]; exact g1
  · simp (disch := omega) only [upV_ne]; exact g2
  · refine g3.cg fun k q1 q2 => ?_; simp (disch := omega) only [upV_ne]
  · refine g4.cg fun k q1 q2 => ?_; simp (disch := omega) only [upV_ne]
  · refine g5.cg fun k q1 q2 => ?_; simp (disch := omega) only [upV_ne]
  · refine g6.cg fun k q1 q2 => ?_; simp (disch := omega) only [upV_ne]
  · refine (g7.wr h1 h2 (by omega) x).cg fun k q1 q2 => ?_
    unfold upV
    by_cases e : k = s
    · rw [if_pos e, if_pos (by omega)]
    · rw [if_neg e, if_neg (by omega)]
  · intro s' k q1 q2 q3 q4
    have hs := hz s' q1 q2
    rw [upV_ne _ _ (by omega)] at q4
    simp (disch := omega) only [upV_ne]
    exact g8 s' k q1 q2 q3 q4
